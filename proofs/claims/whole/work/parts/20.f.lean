def f_Realm_init (a0 : Nat) (h : PH) : Option (PH) :=
  (stI h 5 a0 0 0).bind fun h1 =>
  (stI h1 5 a0 1 0).bind fun h2 =>
  (nwA h2 12 12).bind fun h3 =>
  (stR h3 5 a0 2 (some (gN h2))).bind fun h4 =>
  (nwA h4 12 12).bind fun h5 =>
  (stR h5 5 a0 3 (some (gN h4))).bind fun h6 =>
  (nwA h6 12 12).bind fun h7 =>
  (stR h7 5 a0 4 (some (gN h6))).bind fun h8 =>
  (nwA h8 12 12).bind fun h9 =>
  (stR h9 5 a0 5 (some (gN h8))).bind fun h10 =>
  (nwA h10 12 12).bind fun h11 =>
  (stR h11 5 a0 6 (some (gN h10))).bind fun h12 =>
  (stI h12 5 a0 7 0).bind fun h13 =>
  (stI h13 5 a0 8 0).bind fun h14 =>
  (stI h14 5 a0 9 0).bind fun h15 =>
  (nwA h15 6 6).bind fun h16 =>
  (stR h16 5 a0 10 (some (gN h15))).bind fun h17 =>
  (nwA h17 6 6).bind fun h18 =>
  (stR h18 5 a0 11 (some (gN h17))).bind fun h19 =>
  (nwA h19 6 6).bind fun h20 =>
  (stR h20 5 a0 12 (some (gN h19))).bind fun h21 =>
  (nwA h21 6 6).bind fun h22 =>
  (stR h22 5 a0 13 (some (gN h21))).bind fun h23 =>
  (stI h23 5 a0 14 15).bind fun h24 =>
  (stI h24 5 a0 15 0).bind fun h25 =>
  (stI h25 5 a0 16 0).bind fun h26 =>
  (stI h26 5 a0 17 0).bind fun h27 =>
  (stI h27 5 a0 18 0).bind fun h28 =>
  (stI h28 5 a0 19 0).bind fun h29 =>
  some h29
theorem t_Realm_init {d : Nat} (hd : 1 ≤ d) {mc ms : Nat} (hmc : 9 ≤ mc) (hms : 84 ≤ ms) {a0 : Nat} {h : PH} {r : PH} (hq : f_Realm_init a0 h = some r) : E d mc ms m_Realm_init 0 [(0, .ref a0)] [] h (PV r) := by
  unfold f_Realm_init at hq
  obtain ⟨d, rfl⟩ : ∃ e, d = e + 1 := ⟨d - 1, by omega⟩
  refine E_aln 0 d_Realm_init_0 rfl rfl ?_
  refine E_obj d_Realm_init_1 kj_Realm_3 (Nat.le_of_ble_eq_true rfl) ?_
  refine E_aln 0 d_Realm_init_4 rfl rfl ?_
  refine E_ic (v := 0) d_Realm_init_5 (by decide) ?_
  obtain ⟨h1, eh1, hq⟩ := bd hq
  refine E_pI d_Realm_init_6 lp_Realm_i_9 rfl eh1 ?_
  refine E_aln 0 d_Realm_init_9 rfl rfl ?_
  refine E_ic (v := 0) d_Realm_init_10 (by decide) ?_
  obtain ⟨h2, eh2, hq⟩ := bd hq
  refine E_pI d_Realm_init_11 lp_Realm_i_15 rfl eh2 ?_
  refine E_aln 0 d_Realm_init_14 rfl rfl ?_
  refine E_bi (v := 12) d_Realm_init_15 (by decide) ?_
  obtain ⟨h3, eh3, hq⟩ := bd hq
  refine E_na (mc' := mc - 1) (ms' := ms - 12) d_Realm_init_17 eh3 (by omega) (by omega) ?_
  obtain ⟨h4, eh4, hq⟩ := bd hq
  refine E_pR d_Realm_init_19 lp_Realm_i_18 rfl eh4 ?_
  refine E_aln 0 d_Realm_init_22 rfl rfl ?_
  refine E_bi (v := 12) d_Realm_init_23 (by decide) ?_
  obtain ⟨h5, eh5, hq⟩ := bd hq
  refine E_na (mc' := mc - 2) (ms' := ms - 24) d_Realm_init_25 eh5 (by omega) (by omega) ?_
  obtain ⟨h6, eh6, hq⟩ := bd hq
  refine E_pR d_Realm_init_27 lp_Realm_i_22 rfl eh6 ?_
  refine E_aln 0 d_Realm_init_30 rfl rfl ?_
  refine E_bi (v := 12) d_Realm_init_31 (by decide) ?_
  obtain ⟨h7, eh7, hq⟩ := bd hq
  refine E_na (mc' := mc - 3) (ms' := ms - 36) d_Realm_init_33 eh7 (by omega) (by omega) ?_
  obtain ⟨h8, eh8, hq⟩ := bd hq
  refine E_pR d_Realm_init_35 lp_Realm_i_25 rfl eh8 ?_
  refine E_aln 0 d_Realm_init_38 rfl rfl ?_
  refine E_bi (v := 12) d_Realm_init_39 (by decide) ?_
  obtain ⟨h9, eh9, hq⟩ := bd hq
  refine E_na (mc' := mc - 4) (ms' := ms - 48) d_Realm_init_41 eh9 (by omega) (by omega) ?_
  obtain ⟨h10, eh10, hq⟩ := bd hq
  refine E_pR d_Realm_init_43 lp_Realm_i_28 rfl eh10 ?_
  refine E_aln 0 d_Realm_init_46 rfl rfl ?_
  refine E_bi (v := 12) d_Realm_init_47 (by decide) ?_
  obtain ⟨h11, eh11, hq⟩ := bd hq
  refine E_na (mc' := mc - 5) (ms' := ms - 60) d_Realm_init_49 eh11 (by omega) (by omega) ?_
  obtain ⟨h12, eh12, hq⟩ := bd hq
  refine E_pR d_Realm_init_51 lp_Realm_i_31 rfl eh12 ?_
  refine E_aln 0 d_Realm_init_54 rfl rfl ?_
  refine E_ic (v := 0) d_Realm_init_55 (by decide) ?_
  obtain ⟨h13, eh13, hq⟩ := bd hq
  refine E_pI d_Realm_init_56 lp_Realm_i_34 rfl eh13 ?_
  refine E_aln 0 d_Realm_init_59 rfl rfl ?_
  refine E_ic (v := 0) d_Realm_init_60 (by decide) ?_
  obtain ⟨h14, eh14, hq⟩ := bd hq
  refine E_pI d_Realm_init_61 lp_Realm_i_37 rfl eh14 ?_
  refine E_aln 0 d_Realm_init_64 rfl rfl ?_
  refine E_ic (v := 0) d_Realm_init_65 (by decide) ?_
  obtain ⟨h15, eh15, hq⟩ := bd hq
  refine E_pI d_Realm_init_66 lp_Realm_i_40 rfl eh15 ?_
  refine E_aln 0 d_Realm_init_69 rfl rfl ?_
  refine E_bi (v := 6) d_Realm_init_70 (by decide) ?_
  obtain ⟨h16, eh16, hq⟩ := bd hq
  refine E_na (mc' := mc - 6) (ms' := ms - 66) d_Realm_init_72 eh16 (by omega) (by omega) ?_
  obtain ⟨h17, eh17, hq⟩ := bd hq
  refine E_pR d_Realm_init_74 lp_Realm_i_43 rfl eh17 ?_
  refine E_aln 0 d_Realm_init_77 rfl rfl ?_
  refine E_bi (v := 6) d_Realm_init_78 (by decide) ?_
  obtain ⟨h18, eh18, hq⟩ := bd hq
  refine E_na (mc' := mc - 7) (ms' := ms - 72) d_Realm_init_80 eh18 (by omega) (by omega) ?_
  obtain ⟨h19, eh19, hq⟩ := bd hq
  refine E_pR d_Realm_init_82 lp_Realm_i_46 rfl eh19 ?_
  refine E_aln 0 d_Realm_init_85 rfl rfl ?_
  refine E_bi (v := 6) d_Realm_init_86 (by decide) ?_
  obtain ⟨h20, eh20, hq⟩ := bd hq
  refine E_na (mc' := mc - 8) (ms' := ms - 78) d_Realm_init_88 eh20 (by omega) (by omega) ?_
  obtain ⟨h21, eh21, hq⟩ := bd hq
  refine E_pR d_Realm_init_90 lp_Realm_i_49 rfl eh21 ?_
  refine E_aln 0 d_Realm_init_93 rfl rfl ?_
  refine E_bi (v := 6) d_Realm_init_94 (by decide) ?_
  obtain ⟨h22, eh22, hq⟩ := bd hq
  refine E_na (mc' := mc - 9) (ms' := ms - 84) d_Realm_init_96 eh22 (by omega) (by omega) ?_
  obtain ⟨h23, eh23, hq⟩ := bd hq
  refine E_pR d_Realm_init_98 lp_Realm_i_52 rfl eh23 ?_
  refine E_aln 0 d_Realm_init_101 rfl rfl ?_
  refine E_bi (v := 15) d_Realm_init_102 (by decide) ?_
  obtain ⟨h24, eh24, hq⟩ := bd hq
  refine E_pI d_Realm_init_104 lp_Realm_i_55 rfl eh24 ?_
  refine E_aln 0 d_Realm_init_107 rfl rfl ?_
  refine E_ic (v := 0) d_Realm_init_108 (by decide) ?_
  obtain ⟨h25, eh25, hq⟩ := bd hq
  refine E_pI d_Realm_init_109 lp_Realm_i_58 rfl eh25 ?_
  refine E_aln 0 d_Realm_init_112 rfl rfl ?_
  refine E_ic (v := 0) d_Realm_init_113 (by decide) ?_
  obtain ⟨h26, eh26, hq⟩ := bd hq
  refine E_pI d_Realm_init_114 lp_Realm_i_61 rfl eh26 ?_
  refine E_aln 0 d_Realm_init_117 rfl rfl ?_
  refine E_ic (v := 0) d_Realm_init_118 (by decide) ?_
  obtain ⟨h27, eh27, hq⟩ := bd hq
  refine E_pI d_Realm_init_119 lp_Realm_i_64 rfl eh27 ?_
  refine E_aln 0 d_Realm_init_122 rfl rfl ?_
  refine E_ic (v := 0) d_Realm_init_123 (by decide) ?_
  obtain ⟨h28, eh28, hq⟩ := bd hq
  refine E_pI d_Realm_init_124 lp_Realm_i_67 rfl eh28 ?_
  refine E_aln 0 d_Realm_init_127 rfl rfl ?_
  refine E_ic (v := 0) d_Realm_init_128 (by decide) ?_
  obtain ⟨h29, eh29, hq⟩ := bd hq
  refine E_pI d_Realm_init_129 lp_Realm_i_70 rfl eh29 ?_
  exact E_rV d_Realm_init_132 rfl hq
def f_Row_init_30 (s0 : Int32) (s1 : Nat) (h : PH) : Option (PH) :=
  (nwA h s0 64).bind fun h1 =>
  (stR h1 6 s1 1 (some (gN h))).bind fun h2 =>
  some h2
theorem t_Row_init_30 {d : Nat} (hd : 1 ≤ d) {mc ms : Nat} (hmc : 1 ≤ mc) (hms : 64 ≤ ms) {s0 : Int32} {s1 : Nat} {h : PH} {r : PH} (hq : f_Row_init_30 s0 s1 h = some r) : E d mc ms m_Row_init 30 [] [.int s0, .ref s1] h (PV r) := by
  unfold f_Row_init_30 at hq
  obtain ⟨d, rfl⟩ : ∃ e, d = e + 1 := ⟨d - 1, by omega⟩
  obtain ⟨h1, eh1, hq⟩ := bd hq
  refine E_na (mc' := mc - 1) (ms' := ms - 64) d_Row_init_30 eh1 (by omega) (by omega) ?_
  obtain ⟨h2, eh2, hq⟩ := bd hq
  refine E_pR d_Row_init_32 lp_Row_i_18 rfl eh2 ?_
  exact E_rV d_Row_init_35 rfl hq
def f_Row_init_29 (s0 : Nat) (h : PH) : Option (PH) :=
  f_Row_init_30 0 s0 h
theorem t_Row_init_29 {d : Nat} (hd : 1 ≤ d) {mc ms : Nat} (hmc : 1 ≤ mc) (hms : 64 ≤ ms) {s0 : Nat} {h : PH} {r : PH} (hq : f_Row_init_29 s0 h = some r) : E d mc ms m_Row_init 29 [] [.ref s0] h (PV r) := by
  unfold f_Row_init_29 at hq
  obtain ⟨d, rfl⟩ : ∃ e, d = e + 1 := ⟨d - 1, by omega⟩
  refine E_ic (v := 0) d_Row_init_29 (by decide) ?_
  exact t_Row_init_30 (by omega) (by first | assumption | omega) (by first | assumption | omega) hq
def f_Row_init (a0 : Nat) (x1 : Int32) (x2 : Int32) (h : PH) : Option (PH) :=
  (stI h 6 a0 2 0).bind fun h1 =>
  (stI h1 6 a0 0 x1).bind fun h2 =>
  if x1 ≤ 0 then
    f_Row_init_29 a0 h2
  else
    if x2 ≤ 0 then
      f_Row_init_29 a0 h2
    else
      f_Row_init_30 (x1 * x2) a0 h2
theorem t_Row_init {d : Nat} (hd : 1 ≤ d) {mc ms : Nat} (hmc : 1 ≤ mc) (hms : 64 ≤ ms) {a0 : Nat} {x1 : Int32} {x2 : Int32} {h : PH} {r : PH} (hq : f_Row_init a0 x1 x2 h = some r) : E d mc ms m_Row_init 0 [(0, .ref a0), (1, .int x1), (2, .int x2)] [] h (PV r) := by
  unfold f_Row_init at hq
  obtain ⟨d, rfl⟩ : ∃ e, d = e + 1 := ⟨d - 1, by omega⟩
  refine E_aln 0 d_Row_init_0 rfl rfl ?_
  refine E_obj d_Row_init_1 kj_Row_3 (Nat.le_of_ble_eq_true rfl) ?_
  refine E_aln 0 d_Row_init_4 rfl rfl ?_
  refine E_ic (v := 0) d_Row_init_5 (by decide) ?_
  obtain ⟨h1, eh1, hq⟩ := bd hq
  refine E_pI d_Row_init_6 lp_Row_i_9 rfl eh1 ?_
  refine E_aln 0 d_Row_init_9 rfl rfl ?_
  refine E_iln 1 d_Row_init_10 rfl rfl ?_
  obtain ⟨h2, eh2, hq⟩ := bd hq
  refine E_pI d_Row_init_11 lp_Row_i_15 rfl eh2 ?_
  refine E_aln 0 d_Row_init_14 rfl rfl ?_
  refine E_iln 1 d_Row_init_15 rfl rfl ?_
  refine E_zle (tgt := 29) d_Row_init_16 (by decide) (fun c => ?_) (fun c => ?_)
  · rw [if_pos c] at hq
    exact E_sub (ks := []) rfl <| t_Row_init_29 (by omega) (by first | assumption | omega) (by first | assumption | omega) hq
  · rw [if_neg c] at hq
    refine E_iln 2 d_Row_init_19 rfl rfl ?_
    refine E_zle (tgt := 29) d_Row_init_20 (by decide) (fun c => ?_) (fun c => ?_)
    · rw [if_pos c] at hq
      exact E_sub (ks := []) rfl <| t_Row_init_29 (by omega) (by first | assumption | omega) (by first | assumption | omega) hq
    · rw [if_neg c] at hq
      refine E_iln 1 d_Row_init_23 rfl rfl ?_
      refine E_iln 2 d_Row_init_24 rfl rfl ?_
      refine E_imul d_Row_init_25 ?_
      refine E_goto (tgt := 30) d_Row_init_26 (by decide) ?_
      exact E_sub (ks := []) rfl <| t_Row_init_30 (by omega) (by first | assumption | omega) (by first | assumption | omega) hq
def f_Law_init (a0 : Nat) (h : PH) : Option (PH) :=
  (some (nw h (0, 6))).bind fun h1 =>
  (f_Row_init (gN h) 4 16 h1).bind fun h2 =>
  (stR h2 2 a0 0 (some (gN h))).bind fun h3 =>
  (nwA h3 400 400).bind fun h4 =>
  (stR h4 2 a0 1 (some (gN h3))).bind fun h5 =>
  (stI h5 2 a0 2 0).bind fun h6 =>
  (nwA h6 10 10).bind fun h7 =>
  (stR h7 2 a0 3 (some (gN h6))).bind fun h8 =>
  (nwA h8 32 32).bind fun h9 =>
  (stR h9 2 a0 4 (some (gN h8))).bind fun h10 =>
  some h10
theorem t_Law_init {d : Nat} (hd : 2 ≤ d) {mc ms : Nat} (hmc : 5 ≤ mc) (hms : 509 ≤ ms) {a0 : Nat} {h : PH} {r : PH} (hq : f_Law_init a0 h = some r) : E d mc ms m_Law_init 0 [(0, .ref a0)] [] h (PV r) := by
  unfold f_Law_init at hq
  obtain ⟨d, rfl⟩ : ∃ e, d = e + 1 := ⟨d - 1, by omega⟩
  refine E_aln 0 d_Law_init_0 rfl rfl ?_
  refine E_obj d_Law_init_1 kj_Law_3 (Nat.le_of_ble_eq_true rfl) ?_
  refine E_aln 0 d_Law_init_4 rfl rfl ?_
  obtain ⟨h1, eh1, hq⟩ := bd hq
  cases eh1
  refine E_new (mc' := mc - 1) (ms' := ms - 3) d_Law_init_5 ln_Law_9 (by omega) (by show _ + 3 ≤ _; omega) ?_
  refine E_dupr d_Law_init_8 ?_
  refine E_ic (v := 4) d_Law_init_9 (by decide) ?_
  refine E_bi (v := 16) d_Law_init_10 (by decide) ?_
  obtain ⟨h2, eh2, hq⟩ := bd hq
  refine E_cI2VA (mc1 := 1) (ms1 := 64) (mc2 := mc - 2) (ms2 := ms - 67) d_Law_init_12 ck_Law_11 (Nat.le_of_ble_eq_true rfl) (Nat.le_of_ble_eq_true rfl) (by omega) (by omega) (t_Row_init (by omega) (Nat.le_refl _) (Nat.le_refl _) eh2) ?_
  obtain ⟨h3, eh3, hq⟩ := bd hq
  refine E_pR d_Law_init_15 lp_Law_i_14 rfl eh3 ?_
  refine E_aln 0 d_Law_init_18 rfl rfl ?_
  refine E_si (v := 400) d_Law_init_19 (by decide) ?_
  obtain ⟨h4, eh4, hq⟩ := bd hq
  refine E_na (mc' := mc - 3) (ms' := ms - 467) d_Law_init_22 eh4 (by omega) (by omega) ?_
  obtain ⟨h5, eh5, hq⟩ := bd hq
  refine E_pR d_Law_init_24 lp_Law_i_20 rfl eh5 ?_
  refine E_aln 0 d_Law_init_27 rfl rfl ?_
  refine E_ic (v := 0) d_Law_init_28 (by decide) ?_
  obtain ⟨h6, eh6, hq⟩ := bd hq
  refine E_pI d_Law_init_29 lp_Law_i_24 rfl eh6 ?_
  refine E_aln 0 d_Law_init_32 rfl rfl ?_
  refine E_bi (v := 10) d_Law_init_33 (by decide) ?_
  obtain ⟨h7, eh7, hq⟩ := bd hq
  refine E_na (mc' := mc - 4) (ms' := ms - 477) d_Law_init_35 eh7 (by omega) (by omega) ?_
  obtain ⟨h8, eh8, hq⟩ := bd hq
  refine E_pR d_Law_init_37 lp_Law_i_28 rfl eh8 ?_
  refine E_aln 0 d_Law_init_40 rfl rfl ?_
  refine E_bi (v := 32) d_Law_init_41 (by decide) ?_
  obtain ⟨h9, eh9, hq⟩ := bd hq
  refine E_na (mc' := mc - 5) (ms' := ms - 509) d_Law_init_43 eh9 (by omega) (by omega) ?_
  obtain ⟨h10, eh10, hq⟩ := bd hq
  refine E_pR d_Law_init_45 lp_Law_i_31 rfl eh10 ?_
  exact E_rV d_Law_init_48 rfl hq
def f_Told_init (a0 : Nat) (h : PH) : Option (PH) :=
  (some (nw h (0, 6))).bind fun h1 =>
  (f_Row_init (gN h) 3 8 h1).bind fun h2 =>
  (stR h2 7 a0 0 (some (gN h))).bind fun h3 =>
  (some (nw h3 (0, 6))).bind fun h4 =>
  (f_Row_init (gN h3) 2 16 h4).bind fun h5 =>
  (stR h5 7 a0 1 (some (gN h3))).bind fun h6 =>
  (some (nw h6 (0, 6))).bind fun h7 =>
  (f_Row_init (gN h6) 1 8 h7).bind fun h8 =>
  (stR h8 7 a0 2 (some (gN h6))).bind fun h9 =>
  (some (nw h9 (0, 6))).bind fun h10 =>
  (f_Row_init (gN h9) 1 10 h10).bind fun h11 =>
  (stR h11 7 a0 3 (some (gN h9))).bind fun h12 =>
  (some (nw h12 (0, 6))).bind fun h13 =>
  (f_Row_init (gN h12) 2 6 h13).bind fun h14 =>
  (stR h14 7 a0 4 (some (gN h12))).bind fun h15 =>
  (some (nw h15 (0, 6))).bind fun h16 =>
  (f_Row_init (gN h15) 1 12 h16).bind fun h17 =>
  (stR h17 7 a0 5 (some (gN h15))).bind fun h18 =>
  (nwA h18 24 24).bind fun h19 =>
  (stR h19 7 a0 6 (some (gN h18))).bind fun h20 =>
  (nwA h20 24 24).bind fun h21 =>
  (stR h21 7 a0 7 (some (gN h20))).bind fun h22 =>
  (stI h22 7 a0 8 0).bind fun h23 =>
  (stI h23 7 a0 9 0).bind fun h24 =>
  some h24
theorem t_Told_init {d : Nat} (hd : 2 ≤ d) {mc ms : Nat} (hmc : 14 ≤ mc) (hms : 450 ≤ ms) {a0 : Nat} {h : PH} {r : PH} (hq : f_Told_init a0 h = some r) : E d mc ms m_Told_init 0 [(0, .ref a0)] [] h (PV r) := by
  unfold f_Told_init at hq
  obtain ⟨d, rfl⟩ : ∃ e, d = e + 1 := ⟨d - 1, by omega⟩
  refine E_aln 0 d_Told_init_0 rfl rfl ?_
  refine E_obj d_Told_init_1 kj_Told_3 (Nat.le_of_ble_eq_true rfl) ?_
  refine E_aln 0 d_Told_init_4 rfl rfl ?_
  obtain ⟨h1, eh1, hq⟩ := bd hq
  cases eh1
  refine E_new (mc' := mc - 1) (ms' := ms - 3) d_Told_init_5 ln_Told_9 (by omega) (by show _ + 3 ≤ _; omega) ?_
  refine E_dupr d_Told_init_8 ?_
  refine E_ic (v := 3) d_Told_init_9 (by decide) ?_
  refine E_bi (v := 8) d_Told_init_10 (by decide) ?_
  obtain ⟨h2, eh2, hq⟩ := bd hq
  refine E_cI2VA (mc1 := 1) (ms1 := 64) (mc2 := mc - 2) (ms2 := ms - 67) d_Told_init_12 ck_Told_11 (Nat.le_of_ble_eq_true rfl) (Nat.le_of_ble_eq_true rfl) (by omega) (by omega) (t_Row_init (by omega) (Nat.le_refl _) (Nat.le_refl _) eh2) ?_
  obtain ⟨h3, eh3, hq⟩ := bd hq
  refine E_pR d_Told_init_15 lp_Told_i_14 rfl eh3 ?_
  refine E_aln 0 d_Told_init_18 rfl rfl ?_
  obtain ⟨h4, eh4, hq⟩ := bd hq
  cases eh4
  refine E_new (mc' := mc - 3) (ms' := ms - 70) d_Told_init_19 ln_Told_9 (by omega) (by show _ + 3 ≤ _; omega) ?_
  refine E_dupr d_Told_init_22 ?_
  refine E_ic (v := 2) d_Told_init_23 (by decide) ?_
  refine E_bi (v := 16) d_Told_init_24 (by decide) ?_
  obtain ⟨h5, eh5, hq⟩ := bd hq
  refine E_cI2VA (mc1 := 1) (ms1 := 64) (mc2 := mc - 4) (ms2 := ms - 134) d_Told_init_26 ck_Told_11 (Nat.le_of_ble_eq_true rfl) (Nat.le_of_ble_eq_true rfl) (by omega) (by omega) (t_Row_init (by omega) (Nat.le_refl _) (Nat.le_refl _) eh5) ?_
  obtain ⟨h6, eh6, hq⟩ := bd hq
  refine E_pR d_Told_init_29 lp_Told_i_20 rfl eh6 ?_
  refine E_aln 0 d_Told_init_32 rfl rfl ?_
  obtain ⟨h7, eh7, hq⟩ := bd hq
  cases eh7
  refine E_new (mc' := mc - 5) (ms' := ms - 137) d_Told_init_33 ln_Told_9 (by omega) (by show _ + 3 ≤ _; omega) ?_
  refine E_dupr d_Told_init_36 ?_
  refine E_ic (v := 1) d_Told_init_37 (by decide) ?_
  refine E_bi (v := 8) d_Told_init_38 (by decide) ?_
  obtain ⟨h8, eh8, hq⟩ := bd hq
  refine E_cI2VA (mc1 := 1) (ms1 := 64) (mc2 := mc - 6) (ms2 := ms - 201) d_Told_init_40 ck_Told_11 (Nat.le_of_ble_eq_true rfl) (Nat.le_of_ble_eq_true rfl) (by omega) (by omega) (t_Row_init (by omega) (Nat.le_refl _) (Nat.le_refl _) eh8) ?_
  obtain ⟨h9, eh9, hq⟩ := bd hq
  refine E_pR d_Told_init_43 lp_Told_i_23 rfl eh9 ?_
  refine E_aln 0 d_Told_init_46 rfl rfl ?_
  obtain ⟨h10, eh10, hq⟩ := bd hq
  cases eh10
  refine E_new (mc' := mc - 7) (ms' := ms - 204) d_Told_init_47 ln_Told_9 (by omega) (by show _ + 3 ≤ _; omega) ?_
  refine E_dupr d_Told_init_50 ?_
  refine E_ic (v := 1) d_Told_init_51 (by decide) ?_
  refine E_bi (v := 10) d_Told_init_52 (by decide) ?_
  obtain ⟨h11, eh11, hq⟩ := bd hq
  refine E_cI2VA (mc1 := 1) (ms1 := 64) (mc2 := mc - 8) (ms2 := ms - 268) d_Told_init_54 ck_Told_11 (Nat.le_of_ble_eq_true rfl) (Nat.le_of_ble_eq_true rfl) (by omega) (by omega) (t_Row_init (by omega) (Nat.le_refl _) (Nat.le_refl _) eh11) ?_
  obtain ⟨h12, eh12, hq⟩ := bd hq
  refine E_pR d_Told_init_57 lp_Told_i_26 rfl eh12 ?_
  refine E_aln 0 d_Told_init_60 rfl rfl ?_
  obtain ⟨h13, eh13, hq⟩ := bd hq
  cases eh13
  refine E_new (mc' := mc - 9) (ms' := ms - 271) d_Told_init_61 ln_Told_9 (by omega) (by show _ + 3 ≤ _; omega) ?_
  refine E_dupr d_Told_init_64 ?_
  refine E_ic (v := 2) d_Told_init_65 (by decide) ?_
  refine E_bi (v := 6) d_Told_init_66 (by decide) ?_
  obtain ⟨h14, eh14, hq⟩ := bd hq
  refine E_cI2VA (mc1 := 1) (ms1 := 64) (mc2 := mc - 10) (ms2 := ms - 335) d_Told_init_68 ck_Told_11 (Nat.le_of_ble_eq_true rfl) (Nat.le_of_ble_eq_true rfl) (by omega) (by omega) (t_Row_init (by omega) (Nat.le_refl _) (Nat.le_refl _) eh14) ?_
  obtain ⟨h15, eh15, hq⟩ := bd hq
  refine E_pR d_Told_init_71 lp_Told_i_29 rfl eh15 ?_
  refine E_aln 0 d_Told_init_74 rfl rfl ?_
  obtain ⟨h16, eh16, hq⟩ := bd hq
  cases eh16
  refine E_new (mc' := mc - 11) (ms' := ms - 338) d_Told_init_75 ln_Told_9 (by omega) (by show _ + 3 ≤ _; omega) ?_
  refine E_dupr d_Told_init_78 ?_
  refine E_ic (v := 1) d_Told_init_79 (by decide) ?_
  refine E_bi (v := 12) d_Told_init_80 (by decide) ?_
  obtain ⟨h17, eh17, hq⟩ := bd hq
  refine E_cI2VA (mc1 := 1) (ms1 := 64) (mc2 := mc - 12) (ms2 := ms - 402) d_Told_init_82 ck_Told_11 (Nat.le_of_ble_eq_true rfl) (Nat.le_of_ble_eq_true rfl) (by omega) (by omega) (t_Row_init (by omega) (Nat.le_refl _) (Nat.le_refl _) eh17) ?_
  obtain ⟨h18, eh18, hq⟩ := bd hq
  refine E_pR d_Told_init_85 lp_Told_i_32 rfl eh18 ?_
  refine E_aln 0 d_Told_init_88 rfl rfl ?_
  refine E_bi (v := 24) d_Told_init_89 (by decide) ?_
  obtain ⟨h19, eh19, hq⟩ := bd hq
  refine E_na (mc' := mc - 13) (ms' := ms - 426) d_Told_init_91 eh19 (by omega) (by omega) ?_
  obtain ⟨h20, eh20, hq⟩ := bd hq
  refine E_pR d_Told_init_93 lp_Told_i_35 rfl eh20 ?_
  refine E_aln 0 d_Told_init_96 rfl rfl ?_
  refine E_bi (v := 24) d_Told_init_97 (by decide) ?_
  obtain ⟨h21, eh21, hq⟩ := bd hq
  refine E_na (mc' := mc - 14) (ms' := ms - 450) d_Told_init_99 eh21 (by omega) (by omega) ?_
  obtain ⟨h22, eh22, hq⟩ := bd hq
  refine E_pR d_Told_init_101 lp_Told_i_39 rfl eh22 ?_
  refine E_aln 0 d_Told_init_104 rfl rfl ?_
  refine E_ic (v := 0) d_Told_init_105 (by decide) ?_
  obtain ⟨h23, eh23, hq⟩ := bd hq
  refine E_pI d_Told_init_106 lp_Told_i_42 rfl eh23 ?_
  refine E_aln 0 d_Told_init_109 rfl rfl ?_
  refine E_ic (v := 0) d_Told_init_110 (by decide) ?_
  obtain ⟨h24, eh24, hq⟩ := bd hq
  refine E_pI d_Told_init_111 lp_Told_i_46 rfl eh24 ?_
  exact E_rV d_Told_init_114 rfl hq
def f_Land_init (a0 : Nat) (h : PH) : Option (PH) :=
  (some (nw h (0, 5))).bind fun h1 =>
  (f_Realm_init (gN h)  h1).bind fun h2 =>
  (stR h2 1 a0 0 (some (gN h))).bind fun h3 =>
  (nwA h3 600 600).bind fun h4 =>
  (stR h4 1 a0 1 (some (gN h3))).bind fun h5 =>
  (some (nw h5 (0, 2))).bind fun h6 =>
  (f_Law_init (gN h5)  h6).bind fun h7 =>
  (stR h7 1 a0 2 (some (gN h5))).bind fun h8 =>
  (some (nw h8 (0, 6))).bind fun h9 =>
  (f_Row_init (gN h8) 4 16 h9).bind fun h10 =>
  (stR h10 1 a0 3 (some (gN h8))).bind fun h11 =>
  (some (nw h11 (0, 6))).bind fun h12 =>
  (f_Row_init (gN h11) 4 16 h12).bind fun h13 =>
  (stR h13 1 a0 4 (some (gN h11))).bind fun h14 =>
  (some (nw h14 (0, 6))).bind fun h15 =>
  (f_Row_init (gN h14) 4 16 h15).bind fun h16 =>
  (stR h16 1 a0 5 (some (gN h14))).bind fun h17 =>
  (some (nw h17 (0, 7))).bind fun h18 =>
  (f_Told_init (gN h17)  h18).bind fun h19 =>
  (stR h19 1 a0 6 (some (gN h17))).bind fun h20 =>
  some h20
theorem t_Land_init {d : Nat} (hd : 3 ≤ d) {mc ms : Nat} (hmc : 38 ≤ mc) (hms : 1879 ≤ ms) {a0 : Nat} {h : PH} {r : PH} (hq : f_Land_init a0 h = some r) : E d mc ms m_Land_init 0 [(0, .ref a0)] [] h (PV r) := by
  unfold f_Land_init at hq
  obtain ⟨d, rfl⟩ : ∃ e, d = e + 1 := ⟨d - 1, by omega⟩
  refine E_aln 0 d_Land_init_0 rfl rfl ?_
  refine E_obj d_Land_init_1 kj_Land_3 (Nat.le_of_ble_eq_true rfl) ?_
  refine E_aln 0 d_Land_init_4 rfl rfl ?_
  obtain ⟨h1, eh1, hq⟩ := bd hq
  cases eh1
  refine E_new (mc' := mc - 1) (ms' := ms - 20) d_Land_init_5 ln_Land_9 (by omega) (by show _ + 20 ≤ _; omega) ?_
  refine E_dupr d_Land_init_8 ?_
  obtain ⟨h2, eh2, hq⟩ := bd hq
  refine E_cI0VA (mc1 := 9) (ms1 := 84) (mc2 := mc - 10) (ms2 := ms - 104) d_Land_init_9 ck_Land_11 (Nat.le_of_ble_eq_true rfl) (Nat.le_of_ble_eq_true rfl) (by omega) (by omega) (t_Realm_init (by omega) (Nat.le_refl _) (Nat.le_refl _) eh2) ?_
  obtain ⟨h3, eh3, hq⟩ := bd hq
  refine E_pR d_Land_init_12 lp_Land_i_12 rfl eh3 ?_
  refine E_aln 0 d_Land_init_15 rfl rfl ?_
  refine E_si (v := 600) d_Land_init_16 (by decide) ?_
  obtain ⟨h4, eh4, hq⟩ := bd hq
  refine E_na (mc' := mc - 11) (ms' := ms - 704) d_Land_init_19 eh4 (by omega) (by omega) ?_
  obtain ⟨h5, eh5, hq⟩ := bd hq
  refine E_pR d_Land_init_21 lp_Land_i_18 rfl eh5 ?_
  refine E_aln 0 d_Land_init_24 rfl rfl ?_
  obtain ⟨h6, eh6, hq⟩ := bd hq
  cases eh6
  refine E_new (mc' := mc - 12) (ms' := ms - 709) d_Land_init_25 ln_Land_22 (by omega) (by show _ + 5 ≤ _; omega) ?_
  refine E_dupr d_Land_init_28 ?_
  obtain ⟨h7, eh7, hq⟩ := bd hq
  refine E_cI0VA (mc1 := 5) (ms1 := 509) (mc2 := mc - 17) (ms2 := ms - 1218) d_Land_init_29 ck_Land_24 (Nat.le_of_ble_eq_true rfl) (Nat.le_of_ble_eq_true rfl) (by omega) (by omega) (t_Law_init (by omega) (Nat.le_refl _) (Nat.le_refl _) eh7) ?_
  obtain ⟨h8, eh8, hq⟩ := bd hq
  refine E_pR d_Land_init_32 lp_Land_i_25 rfl eh8 ?_
  refine E_aln 0 d_Land_init_35 rfl rfl ?_
  obtain ⟨h9, eh9, hq⟩ := bd hq
  cases eh9
  refine E_new (mc' := mc - 18) (ms' := ms - 1221) d_Land_init_36 ln_Land_29 (by omega) (by show _ + 3 ≤ _; omega) ?_
  refine E_dupr d_Land_init_39 ?_
  refine E_ic (v := 4) d_Land_init_40 (by decide) ?_
  refine E_bi (v := 16) d_Land_init_41 (by decide) ?_
  obtain ⟨h10, eh10, hq⟩ := bd hq
  refine E_cI2VA (mc1 := 1) (ms1 := 64) (mc2 := mc - 19) (ms2 := ms - 1285) d_Land_init_43 ck_Land_31 (Nat.le_of_ble_eq_true rfl) (Nat.le_of_ble_eq_true rfl) (by omega) (by omega) (t_Row_init (by omega) (Nat.le_refl _) (Nat.le_refl _) eh10) ?_
  obtain ⟨h11, eh11, hq⟩ := bd hq
  refine E_pR d_Land_init_46 lp_Land_i_34 rfl eh11 ?_
  refine E_aln 0 d_Land_init_49 rfl rfl ?_
  obtain ⟨h12, eh12, hq⟩ := bd hq
  cases eh12
  refine E_new (mc' := mc - 20) (ms' := ms - 1288) d_Land_init_50 ln_Land_29 (by omega) (by show _ + 3 ≤ _; omega) ?_
  refine E_dupr d_Land_init_53 ?_
  refine E_ic (v := 4) d_Land_init_54 (by decide) ?_
  refine E_bi (v := 16) d_Land_init_55 (by decide) ?_
  obtain ⟨h13, eh13, hq⟩ := bd hq
  refine E_cI2VA (mc1 := 1) (ms1 := 64) (mc2 := mc - 21) (ms2 := ms - 1352) d_Land_init_57 ck_Land_31 (Nat.le_of_ble_eq_true rfl) (Nat.le_of_ble_eq_true rfl) (by omega) (by omega) (t_Row_init (by omega) (Nat.le_refl _) (Nat.le_refl _) eh13) ?_
  obtain ⟨h14, eh14, hq⟩ := bd hq
  refine E_pR d_Land_init_60 lp_Land_i_38 rfl eh14 ?_
  refine E_aln 0 d_Land_init_63 rfl rfl ?_
  obtain ⟨h15, eh15, hq⟩ := bd hq
  cases eh15
  refine E_new (mc' := mc - 22) (ms' := ms - 1355) d_Land_init_64 ln_Land_29 (by omega) (by show _ + 3 ≤ _; omega) ?_
  refine E_dupr d_Land_init_67 ?_
  refine E_ic (v := 4) d_Land_init_68 (by decide) ?_
  refine E_bi (v := 16) d_Land_init_69 (by decide) ?_
  obtain ⟨h16, eh16, hq⟩ := bd hq
  refine E_cI2VA (mc1 := 1) (ms1 := 64) (mc2 := mc - 23) (ms2 := ms - 1419) d_Land_init_71 ck_Land_31 (Nat.le_of_ble_eq_true rfl) (Nat.le_of_ble_eq_true rfl) (by omega) (by omega) (t_Row_init (by omega) (Nat.le_refl _) (Nat.le_refl _) eh16) ?_
  obtain ⟨h17, eh17, hq⟩ := bd hq
  refine E_pR d_Land_init_74 lp_Land_i_41 rfl eh17 ?_
  refine E_aln 0 d_Land_init_77 rfl rfl ?_
  obtain ⟨h18, eh18, hq⟩ := bd hq
  cases eh18
  refine E_new (mc' := mc - 24) (ms' := ms - 1429) d_Land_init_78 ln_Land_44 (by omega) (by show _ + 10 ≤ _; omega) ?_
  refine E_dupr d_Land_init_81 ?_
  obtain ⟨h19, eh19, hq⟩ := bd hq
  refine E_cI0VA (mc1 := 14) (ms1 := 450) (mc2 := mc - 38) (ms2 := ms - 1879) d_Land_init_82 ck_Land_46 (Nat.le_of_ble_eq_true rfl) (Nat.le_of_ble_eq_true rfl) (by omega) (by omega) (t_Told_init (by omega) (Nat.le_refl _) (Nat.le_refl _) eh19) ?_
  obtain ⟨h20, eh20, hq⟩ := bd hq
  refine E_pR d_Land_init_85 lp_Land_i_47 rfl eh20 ?_
  exact E_rV d_Land_init_88 rfl hq
def f_Log_init_25 : Nat → Nat → Int32 → PH → Option (PH)
  | 0, _, _, _ => none
  | n + 1, a0, x1, h =>
    if 6 ≤ x1 then
      some h
    else
      (ldR h 3 a0 0).bind fun v1 =>
      (some (nw h (0, 5))).bind fun h2 =>
      (f_Realm_init (gN h)  h2).bind fun h3 =>
      (wrQ h3 v1 x1 (gN h)).bind fun h4 =>
      f_Log_init_25 n a0 (x1 + 1) h4
set_option maxRecDepth 200000 in
set_option maxHeartbeats 4000000 in
theorem t_Log_init_25 {d : Nat} (hd : 2 ≤ d) : ∀ (n : Nat) (a0 : Nat) (x1 : Int32) (h : PH) (r : PH) (mc ms : Nat), n * 10 ≤ mc → n * 104 ≤ ms → f_Log_init_25 n a0 x1 h = some r → E d mc ms m_Log_init 25 [(0, .ref a0), (1, .int x1)] [] h (PV r) := by
  intro n
  induction n with
  | zero => intro a0 x1 h r mc ms hmc hms hq; rw [f_Log_init_25] at hq; cases hq
  | succ n ih =>
    intro a0 x1 h r mc ms hmc hms hq
    rw [f_Log_init_25] at hq
    obtain ⟨d, rfl⟩ : ∃ e, d = e + 1 := ⟨d - 1, by omega⟩
    refine E_iln 1 d_Log_init_25 rfl rfl ?_
    refine E_bi (v := 6) d_Log_init_26 (by decide) ?_
    refine E_jge (tgt := 50) d_Log_init_28 (by decide) (fun c => ?_) (fun c => ?_)
    · rw [if_pos c] at hq
      exact E_rV d_Log_init_50 rfl hq
    · rw [if_neg c] at hq
      refine E_aln 0 d_Log_init_31 rfl rfl ?_
      obtain ⟨v1, ev1, hq⟩ := bd hq
      refine E_gR d_Log_init_32 lk_Log_11 rfl ev1 ?_
      refine E_iln 1 d_Log_init_35 rfl rfl ?_
      obtain ⟨h2, eh2, hq⟩ := bd hq
      cases eh2
      refine E_new (mc' := mc - 1) (ms' := ms - 20) d_Log_init_36 ln_Log_9 (by omega) (by show _ + 20 ≤ _; omega) ?_
      refine E_dupr d_Log_init_39 ?_
      obtain ⟨h3, eh3, hq⟩ := bd hq
      refine E_cI0VA (mc1 := 9) (ms1 := 84) (mc2 := mc - 10) (ms2 := ms - 104) d_Log_init_40 ck_Log_24 (Nat.le_of_ble_eq_true rfl) (Nat.le_of_ble_eq_true rfl) (by omega) (by omega) (t_Realm_init (by omega) (Nat.le_refl _) (Nat.le_refl _) eh3) ?_
      obtain ⟨h4, eh4, hq⟩ := bd hq
      refine E_wq d_Log_init_43 eh4 ?_
      refine E_inc (v := 1) (ls' := [(1, .int (x1 + 1)), (0, .ref a0)]) 1 d_Log_init_44 rfl (Nat.le_of_ble_eq_true rfl) (by decide) rfl ?_
      refine E_goto (tgt := 25) d_Log_init_47 (by decide) ?_
      exact E_sub (ks := [1, 0]) rfl <| ih _ _ _ _ _ _ (by first | assumption | omega) (by first | assumption | omega) hq
def f_Log_init (a0 : Nat) (h : PH) : Option (PH) :=
  (nwQ h 6 6).bind fun h1 =>
  (stR h1 3 a0 0 (some (gN h))).bind fun h2 =>
  (stI h2 3 a0 1 0).bind fun h3 =>
  (stI h3 3 a0 2 0).bind fun h4 =>
  f_Log_init_25 7 a0 0 h4
theorem t_Log_init {d : Nat} (hd : 2 ≤ d) {mc ms : Nat} (hmc : 71 ≤ mc) (hms : 734 ≤ ms) {a0 : Nat} {h : PH} {r : PH} (hq : f_Log_init a0 h = some r) : E d mc ms m_Log_init 0 [(0, .ref a0)] [] h (PV r) := by
  unfold f_Log_init at hq
  obtain ⟨d, rfl⟩ : ∃ e, d = e + 1 := ⟨d - 1, by omega⟩
  refine E_aln 0 d_Log_init_0 rfl rfl ?_
  refine E_obj d_Log_init_1 kj_Log_3 (Nat.le_of_ble_eq_true rfl) ?_
  refine E_aln 0 d_Log_init_4 rfl rfl ?_
  refine E_bi (v := 6) d_Log_init_5 (by decide) ?_
  obtain ⟨h1, eh1, hq⟩ := bd hq
  refine E_nq (mc' := mc - 1) (ms' := ms - 6) d_Log_init_7 kc_Log_9 eh1 (by omega) (by omega) ?_
  obtain ⟨h2, eh2, hq⟩ := bd hq
  refine E_pR d_Log_init_10 lp_Log_i_11 rfl eh2 ?_
  refine E_aln 0 d_Log_init_13 rfl rfl ?_
  refine E_ic (v := 0) d_Log_init_14 (by decide) ?_
  obtain ⟨h3, eh3, hq⟩ := bd hq
  refine E_pI d_Log_init_15 lp_Log_i_17 rfl eh3 ?_
  refine E_aln 0 d_Log_init_18 rfl rfl ?_
  refine E_ic (v := 0) d_Log_init_19 (by decide) ?_
  obtain ⟨h4, eh4, hq⟩ := bd hq
  refine E_pI d_Log_init_20 lp_Log_i_21 rfl eh4 ?_
  refine E_ic (v := 0) d_Log_init_23 (by decide) ?_
  refine E_isn (ls' := [(1, .int 0), (0, .ref a0)]) d_Log_init_24 (Nat.le_of_ble_eq_true rfl) rfl ?_
  exact E_sub (ks := [1, 0]) rfl <| t_Log_init_25 (by omega) _ _ _ _ _ _ _ (by omega) (by omega) hq
def f_Reader_init (a0 : Nat) (h : PH) : Option (PH) :=
  (nwA h 400 400).bind fun h1 =>
  (stR h1 4 a0 0 (some (gN h))).bind fun h2 =>
  (stI h2 4 a0 1 0).bind fun h3 =>
  (stI h3 4 a0 2 0).bind fun h4 =>
  (stI h4 4 a0 3 (-1)).bind fun h5 =>
  (some (nw h5 (0, 2))).bind fun h6 =>
  (f_Law_init (gN h5)  h6).bind fun h7 =>
  (stR h7 4 a0 4 (some (gN h5))).bind fun h8 =>
  (some (nw h8 (0, 6))).bind fun h9 =>
  (f_Row_init (gN h8) 4 16 h9).bind fun h10 =>
  (stR h10 4 a0 5 (some (gN h8))).bind fun h11 =>
  (nwA h11 401 401).bind fun h12 =>
  (stR h12 4 a0 6 (some (gN h11))).bind fun h13 =>
  (nwA h13 401 401).bind fun h14 =>
  (stR h14 4 a0 7 (some (gN h13))).bind fun h15 =>
  (stI h15 4 a0 8 0).bind fun h16 =>
  (stI h16 4 a0 9 (-1)).bind fun h17 =>
  (stI h17 4 a0 10 0).bind fun h18 =>
  some h18
theorem t_Reader_init {d : Nat} (hd : 3 ≤ d) {mc ms : Nat} (hmc : 11 ≤ mc) (hms : 1783 ≤ ms) {a0 : Nat} {h : PH} {r : PH} (hq : f_Reader_init a0 h = some r) : E d mc ms m_Reader_init 0 [(0, .ref a0)] [] h (PV r) := by
  unfold f_Reader_init at hq
  obtain ⟨d, rfl⟩ : ∃ e, d = e + 1 := ⟨d - 1, by omega⟩
  refine E_aln 0 d_Reader_init_0 rfl rfl ?_
  refine E_obj d_Reader_init_1 kj_Reader_5 (Nat.le_of_ble_eq_true rfl) ?_
  refine E_aln 0 d_Reader_init_4 rfl rfl ?_
  refine E_si (v := 400) d_Reader_init_5 (by decide) ?_
  obtain ⟨h1, eh1, hq⟩ := bd hq
  refine E_na (mc' := mc - 1) (ms' := ms - 400) d_Reader_init_8 eh1 (by omega) (by omega) ?_
  obtain ⟨h2, eh2, hq⟩ := bd hq
  refine E_pR d_Reader_init_10 lp_Reader_i_11 rfl eh2 ?_
  refine E_aln 0 d_Reader_init_13 rfl rfl ?_
  refine E_ic (v := 0) d_Reader_init_14 (by decide) ?_
  obtain ⟨h3, eh3, hq⟩ := bd hq
  refine E_pI d_Reader_init_15 lp_Reader_i_15 rfl eh3 ?_
  refine E_aln 0 d_Reader_init_18 rfl rfl ?_
  refine E_ic (v := 0) d_Reader_init_19 (by decide) ?_
  obtain ⟨h4, eh4, hq⟩ := bd hq
  refine E_pI d_Reader_init_20 lp_Reader_i_19 rfl eh4 ?_
  refine E_aln 0 d_Reader_init_23 rfl rfl ?_
  refine E_ic (v := (-1)) d_Reader_init_24 (by decide) ?_
  obtain ⟨h5, eh5, hq⟩ := bd hq
  refine E_pI d_Reader_init_25 lp_Reader_i_22 rfl eh5 ?_
  refine E_aln 0 d_Reader_init_28 rfl rfl ?_
  obtain ⟨h6, eh6, hq⟩ := bd hq
  cases eh6
  refine E_new (mc' := mc - 2) (ms' := ms - 405) d_Reader_init_29 ln_Reader_25 (by omega) (by show _ + 5 ≤ _; omega) ?_
  refine E_dupr d_Reader_init_32 ?_
  obtain ⟨h7, eh7, hq⟩ := bd hq
  refine E_cI0VA (mc1 := 5) (ms1 := 509) (mc2 := mc - 7) (ms2 := ms - 914) d_Reader_init_33 ck_Reader_27 (Nat.le_of_ble_eq_true rfl) (Nat.le_of_ble_eq_true rfl) (by omega) (by omega) (t_Law_init (by omega) (Nat.le_refl _) (Nat.le_refl _) eh7) ?_
  obtain ⟨h8, eh8, hq⟩ := bd hq
  refine E_pR d_Reader_init_36 lp_Reader_i_28 rfl eh8 ?_
  refine E_aln 0 d_Reader_init_39 rfl rfl ?_
  obtain ⟨h9, eh9, hq⟩ := bd hq
  cases eh9
  refine E_new (mc' := mc - 8) (ms' := ms - 917) d_Reader_init_40 ln_Reader_32 (by omega) (by show _ + 3 ≤ _; omega) ?_
  refine E_dupr d_Reader_init_43 ?_
  refine E_ic (v := 4) d_Reader_init_44 (by decide) ?_
  refine E_bi (v := 16) d_Reader_init_45 (by decide) ?_
  obtain ⟨h10, eh10, hq⟩ := bd hq
  refine E_cI2VA (mc1 := 1) (ms1 := 64) (mc2 := mc - 9) (ms2 := ms - 981) d_Reader_init_47 ck_Reader_34 (Nat.le_of_ble_eq_true rfl) (Nat.le_of_ble_eq_true rfl) (by omega) (by omega) (t_Row_init (by omega) (Nat.le_refl _) (Nat.le_refl _) eh10) ?_
  obtain ⟨h11, eh11, hq⟩ := bd hq
  refine E_pR d_Reader_init_50 lp_Reader_i_37 rfl eh11 ?_
  refine E_aln 0 d_Reader_init_53 rfl rfl ?_
  refine E_si (v := 401) d_Reader_init_54 (by decide) ?_
  obtain ⟨h12, eh12, hq⟩ := bd hq
  refine E_na (mc' := mc - 10) (ms' := ms - 1382) d_Reader_init_57 eh12 (by omega) (by omega) ?_
  obtain ⟨h13, eh13, hq⟩ := bd hq
  refine E_pR d_Reader_init_59 lp_Reader_i_41 rfl eh13 ?_
  refine E_aln 0 d_Reader_init_62 rfl rfl ?_
  refine E_si (v := 401) d_Reader_init_63 (by decide) ?_
  obtain ⟨h14, eh14, hq⟩ := bd hq
  refine E_na (mc' := mc - 11) (ms' := ms - 1783) d_Reader_init_66 eh14 (by omega) (by omega) ?_
  obtain ⟨h15, eh15, hq⟩ := bd hq
  refine E_pR d_Reader_init_68 lp_Reader_i_44 rfl eh15 ?_
  refine E_aln 0 d_Reader_init_71 rfl rfl ?_
  refine E_ic (v := 0) d_Reader_init_72 (by decide) ?_
  obtain ⟨h16, eh16, hq⟩ := bd hq
  refine E_pI d_Reader_init_73 lp_Reader_i_47 rfl eh16 ?_
  refine E_aln 0 d_Reader_init_76 rfl rfl ?_
  refine E_ic (v := (-1)) d_Reader_init_77 (by decide) ?_
  obtain ⟨h17, eh17, hq⟩ := bd hq
  refine E_pI d_Reader_init_78 lp_Reader_i_50 rfl eh17 ?_
  refine E_aln 0 d_Reader_init_81 rfl rfl ?_
  refine E_ic (v := 0) d_Reader_init_82 (by decide) ?_
  obtain ⟨h18, eh18, hq⟩ := bd hq
  refine E_pI d_Reader_init_83 lp_Reader_i_53 rfl eh18 ?_
  exact E_rV d_Reader_init_86 rfl hq
def f_Desk_init (a0 : Nat) (h : PH) : Option (PH) :=
  (nwA h 64 64).bind fun h1 =>
  (stR h1 0 a0 0 (some (gN h))).bind fun h2 =>
  (nwA h2 256 256).bind fun h3 =>
  (stR h3 0 a0 1 (some (gN h2))).bind fun h4 =>
  (nwA h4 4 4).bind fun h5 =>
  (stR h5 0 a0 2 (some (gN h4))).bind fun h6 =>
  (nwA h6 4 4).bind fun h7 =>
  (stR h7 0 a0 3 (some (gN h6))).bind fun h8 =>
  (nwA h8 10 10).bind fun h9 =>
  (stR h9 0 a0 4 (some (gN h8))).bind fun h10 =>
  (nwA h10 10 10).bind fun h11 =>
  (stR h11 0 a0 5 (some (gN h10))).bind fun h12 =>
  some h12
theorem t_Desk_init {d : Nat} (hd : 1 ≤ d) {mc ms : Nat} (hmc : 6 ≤ mc) (hms : 348 ≤ ms) {a0 : Nat} {h : PH} {r : PH} (hq : f_Desk_init a0 h = some r) : E d mc ms m_Desk_init 0 [(0, .ref a0)] [] h (PV r) := by
  unfold f_Desk_init at hq
  obtain ⟨d, rfl⟩ : ∃ e, d = e + 1 := ⟨d - 1, by omega⟩
  refine E_aln 0 d_Desk_init_0 rfl rfl ?_
  refine E_obj d_Desk_init_1 kj_Desk_3 (Nat.le_of_ble_eq_true rfl) ?_
  refine E_aln 0 d_Desk_init_4 rfl rfl ?_
  refine E_bi (v := 64) d_Desk_init_5 (by decide) ?_
  obtain ⟨h1, eh1, hq⟩ := bd hq
  refine E_na (mc' := mc - 1) (ms' := ms - 64) d_Desk_init_7 eh1 (by omega) (by omega) ?_
  obtain ⟨h2, eh2, hq⟩ := bd hq
  refine E_pR d_Desk_init_9 lp_Desk_i_9 rfl eh2 ?_
  refine E_aln 0 d_Desk_init_12 rfl rfl ?_
  refine E_si (v := 256) d_Desk_init_13 (by decide) ?_
  obtain ⟨h3, eh3, hq⟩ := bd hq
  refine E_na (mc' := mc - 2) (ms' := ms - 320) d_Desk_init_16 eh3 (by omega) (by omega) ?_
  obtain ⟨h4, eh4, hq⟩ := bd hq
  refine E_pR d_Desk_init_18 lp_Desk_i_15 rfl eh4 ?_
  refine E_aln 0 d_Desk_init_21 rfl rfl ?_
  refine E_ic (v := 4) d_Desk_init_22 (by decide) ?_
  obtain ⟨h5, eh5, hq⟩ := bd hq
  refine E_na (mc' := mc - 3) (ms' := ms - 324) d_Desk_init_23 eh5 (by omega) (by omega) ?_
  obtain ⟨h6, eh6, hq⟩ := bd hq
  refine E_pR d_Desk_init_25 lp_Desk_i_18 rfl eh6 ?_
  refine E_aln 0 d_Desk_init_28 rfl rfl ?_
  refine E_ic (v := 4) d_Desk_init_29 (by decide) ?_
  obtain ⟨h7, eh7, hq⟩ := bd hq
  refine E_na (mc' := mc - 4) (ms' := ms - 328) d_Desk_init_30 eh7 (by omega) (by omega) ?_
  obtain ⟨h8, eh8, hq⟩ := bd hq
  refine E_pR d_Desk_init_32 lp_Desk_i_21 rfl eh8 ?_
  refine E_aln 0 d_Desk_init_35 rfl rfl ?_
  refine E_bi (v := 10) d_Desk_init_36 (by decide) ?_
  obtain ⟨h9, eh9, hq⟩ := bd hq
  refine E_na (mc' := mc - 5) (ms' := ms - 338) d_Desk_init_38 eh9 (by omega) (by omega) ?_
  obtain ⟨h10, eh10, hq⟩ := bd hq
  refine E_pR d_Desk_init_40 lp_Desk_i_24 rfl eh10 ?_
  refine E_aln 0 d_Desk_init_43 rfl rfl ?_
  refine E_bi (v := 10) d_Desk_init_44 (by decide) ?_
  obtain ⟨h11, eh11, hq⟩ := bd hq
  refine E_na (mc' := mc - 6) (ms' := ms - 348) d_Desk_init_46 eh11 (by omega) (by omega) ?_
  obtain ⟨h12, eh12, hq⟩ := bd hq
  refine E_pR d_Desk_init_48 lp_Desk_i_27 rfl eh12 ?_
  exact E_rV d_Desk_init_51 rfl hq
def f_Tc_init (a0 : Nat) (h : PH) : Option (PH) :=
  (some (nw h (0, 1))).bind fun h1 =>
  (f_Land_init (gN h)  h1).bind fun h2 =>
  (stR h2 8 a0 0 (some (gN h))).bind fun h3 =>
  (some (nw h3 (0, 3))).bind fun h4 =>
  (f_Log_init (gN h3)  h4).bind fun h5 =>
  (stR h5 8 a0 1 (some (gN h3))).bind fun h6 =>
  (some (nw h6 (0, 4))).bind fun h7 =>
  (f_Reader_init (gN h6)  h7).bind fun h8 =>
  (stR h8 8 a0 2 (some (gN h6))).bind fun h9 =>
  (some (nw h9 (0, 5))).bind fun h10 =>
  (f_Realm_init (gN h9)  h10).bind fun h11 =>
  (stR h11 8 a0 3 (some (gN h9))).bind fun h12 =>
  (some (nw h12 (0, 0))).bind fun h13 =>
  (f_Desk_init (gN h12)  h13).bind fun h14 =>
  (stR h14 8 a0 4 (some (gN h12))).bind fun h15 =>
  (stR h15 8 a0 5 none).bind fun h16 =>
  some h16
theorem t_Tc_init {d : Nat} (hd : 4 ≤ d) {mc ms : Nat} (hmc : 140 ≤ mc) (hms : 4875 ≤ ms) {a0 : Nat} {h : PH} {r : PH} (hq : f_Tc_init a0 h = some r) : E d mc ms m_Tc_init 0 [(0, .ref a0)] [] h (PV r) := by
  unfold f_Tc_init at hq
  obtain ⟨d, rfl⟩ : ∃ e, d = e + 1 := ⟨d - 1, by omega⟩
  refine E_aln 0 d_Tc_init_0 rfl rfl ?_
  refine E_obj d_Tc_init_1 kj_Tc_1 (Nat.le_of_ble_eq_true rfl) ?_
  refine E_aln 0 d_Tc_init_4 rfl rfl ?_
  obtain ⟨h1, eh1, hq⟩ := bd hq
  cases eh1
  refine E_new (mc' := mc - 1) (ms' := ms - 7) d_Tc_init_5 ln_Tc_7 (by omega) (by show _ + 7 ≤ _; omega) ?_
  refine E_dupr d_Tc_init_8 ?_
  obtain ⟨h2, eh2, hq⟩ := bd hq
  refine E_cI0VA (mc1 := 38) (ms1 := 1879) (mc2 := mc - 39) (ms2 := ms - 1886) d_Tc_init_9 ck_Tc_9 (Nat.le_of_ble_eq_true rfl) (Nat.le_of_ble_eq_true rfl) (by omega) (by omega) (t_Land_init (by omega) (Nat.le_refl _) (Nat.le_refl _) eh2) ?_
  obtain ⟨h3, eh3, hq⟩ := bd hq
  refine E_pR d_Tc_init_12 lp_Tc_i_10 rfl eh3 ?_
  refine E_aln 0 d_Tc_init_15 rfl rfl ?_
  obtain ⟨h4, eh4, hq⟩ := bd hq
  cases eh4
  refine E_new (mc' := mc - 40) (ms' := ms - 1889) d_Tc_init_16 ln_Tc_16 (by omega) (by show _ + 3 ≤ _; omega) ?_
  refine E_dupr d_Tc_init_19 ?_
  obtain ⟨h5, eh5, hq⟩ := bd hq
  refine E_cI0VA (mc1 := 71) (ms1 := 734) (mc2 := mc - 111) (ms2 := ms - 2623) d_Tc_init_20 ck_Tc_18 (Nat.le_of_ble_eq_true rfl) (Nat.le_of_ble_eq_true rfl) (by omega) (by omega) (t_Log_init (by omega) (Nat.le_refl _) (Nat.le_refl _) eh5) ?_
  obtain ⟨h6, eh6, hq⟩ := bd hq
  refine E_pR d_Tc_init_23 lp_Tc_i_19 rfl eh6 ?_
  refine E_aln 0 d_Tc_init_26 rfl rfl ?_
  obtain ⟨h7, eh7, hq⟩ := bd hq
  cases eh7
  refine E_new (mc' := mc - 112) (ms' := ms - 2634) d_Tc_init_27 ln_Tc_23 (by omega) (by show _ + 11 ≤ _; omega) ?_
  refine E_dupr d_Tc_init_30 ?_
  obtain ⟨h8, eh8, hq⟩ := bd hq
  refine E_cI0VA (mc1 := 11) (ms1 := 1783) (mc2 := mc - 123) (ms2 := ms - 4417) d_Tc_init_31 ck_Tc_25 (Nat.le_of_ble_eq_true rfl) (Nat.le_of_ble_eq_true rfl) (by omega) (by omega) (t_Reader_init (by omega) (Nat.le_refl _) (Nat.le_refl _) eh8) ?_
  obtain ⟨h9, eh9, hq⟩ := bd hq
  refine E_pR d_Tc_init_34 lp_Tc_i_26 rfl eh9 ?_
  refine E_aln 0 d_Tc_init_37 rfl rfl ?_
  obtain ⟨h10, eh10, hq⟩ := bd hq
  cases eh10
  refine E_new (mc' := mc - 124) (ms' := ms - 4437) d_Tc_init_38 ln_Tc_30 (by omega) (by show _ + 20 ≤ _; omega) ?_
  refine E_dupr d_Tc_init_41 ?_
  obtain ⟨h11, eh11, hq⟩ := bd hq
  refine E_cI0VA (mc1 := 9) (ms1 := 84) (mc2 := mc - 133) (ms2 := ms - 4521) d_Tc_init_42 ck_Tc_32 (Nat.le_of_ble_eq_true rfl) (Nat.le_of_ble_eq_true rfl) (by omega) (by omega) (t_Realm_init (by omega) (Nat.le_refl _) (Nat.le_refl _) eh11) ?_
  obtain ⟨h12, eh12, hq⟩ := bd hq
  refine E_pR d_Tc_init_45 lp_Tc_i_33 rfl eh12 ?_
  refine E_aln 0 d_Tc_init_48 rfl rfl ?_
  obtain ⟨h13, eh13, hq⟩ := bd hq
  cases eh13
  refine E_new (mc' := mc - 134) (ms' := ms - 4527) d_Tc_init_49 ln_Tc_37 (by omega) (by show _ + 6 ≤ _; omega) ?_
  refine E_dupr d_Tc_init_52 ?_
  obtain ⟨h14, eh14, hq⟩ := bd hq
  refine E_cI0VA (mc1 := 6) (ms1 := 348) (mc2 := mc - 140) (ms2 := ms - 4875) d_Tc_init_53 ck_Tc_39 (Nat.le_of_ble_eq_true rfl) (Nat.le_of_ble_eq_true rfl) (by omega) (by omega) (t_Desk_init (by omega) (Nat.le_refl _) (Nat.le_refl _) eh14) ?_
  obtain ⟨h15, eh15, hq⟩ := bd hq
  refine E_pR d_Tc_init_56 lp_Tc_i_40 rfl eh15 ?_
  refine E_aln 0 d_Tc_init_59 rfl rfl ?_
  refine E_nul d_Tc_init_60 ?_
  obtain ⟨h16, eh16, hq⟩ := bd hq
  refine E_pN d_Tc_init_61 lp_Tc_i_44 rfl eh16 ?_
  exact E_rV d_Tc_init_64 rfl hq
def f_Log_forget (a0 : Nat) (h : PH) : Option (PH) :=
  (stI h 3 a0 2 0).bind fun h1 =>
  some h1
theorem t_Log_forget {d : Nat} (hd : 0 ≤ d) {a0 : Nat} {h : PH} {r : PH} (hq : f_Log_forget a0 h = some r) : E d 0 0 m_Log_forget 0 [(0, .ref a0)] [] h (PV r) := by
  unfold f_Log_forget at hq
  refine E_aln 0 d_Log_forget_0 rfl rfl ?_
  refine E_ic (v := 0) d_Log_forget_1 (by decide) ?_
  obtain ⟨h1, eh1, hq⟩ := bd hq
  refine E_pI d_Log_forget_2 lp_Log_m_21 rfl eh1 ?_
  exact E_rV d_Log_forget_5 rfl hq
def f_Tc_state (a0 : Nat) (x1 : Int32) (h : PH) : Option (Int32 × PH) :=
  (ldR h 8 a0 0).bind fun v1 =>
  (ldR h 1 v1 0).bind fun v2 =>
  (ldI h 5 v2 0).bind fun v3 =>
  (ldR h 8 a0 0).bind fun v4 =>
  (ldR h 1 v4 0).bind fun v5 =>
  (stI h 5 v5 0 x1).bind fun h6 =>
  (ldR h6 8 a0 1).bind fun v7 =>
  (isO h6 3 v7).bind fun _ =>
  (f_Log_forget v7  h6).bind fun h8 =>
  some (v3, h8)
theorem t_Tc_state {d : Nat} (hd : 1 ≤ d) {a0 : Nat} {x1 : Int32} {h : PH} {r : Int32 × PH} (hq : f_Tc_state a0 x1 h = some r) : E d 0 0 m_Tc_state 0 [(0, .ref a0), (1, .int x1)] [] h (PI r) := by
  unfold f_Tc_state at hq
  obtain ⟨d, rfl⟩ : ∃ e, d = e + 1 := ⟨d - 1, by omega⟩
  refine E_aln 0 d_Tc_state_0 rfl rfl ?_
  obtain ⟨v1, ev1, hq⟩ := bd hq
  refine E_gR d_Tc_state_1 lk_Tc_10 rfl ev1 ?_
  obtain ⟨v2, ev2, hq⟩ := bd hq
  refine E_gR d_Tc_state_4 lk_Tc_47 rfl ev2 ?_
  obtain ⟨v3, ev3, hq⟩ := bd hq
  refine E_gI d_Tc_state_7 lk_Tc_50 rfl ev3 ?_
  refine E_isn (ls' := [(2, .int v3), (0, .ref a0), (1, .int x1)]) d_Tc_state_10 (Nat.le_of_ble_eq_true rfl) rfl ?_
  refine E_aln 1 d_Tc_state_11 rfl rfl ?_
  obtain ⟨v4, ev4, hq⟩ := bd hq
  refine E_gR d_Tc_state_12 lk_Tc_10 rfl ev4 ?_
  obtain ⟨v5, ev5, hq⟩ := bd hq
  refine E_gR d_Tc_state_15 lk_Tc_47 rfl ev5 ?_
  refine E_iln 2 d_Tc_state_18 rfl rfl ?_
  obtain ⟨h6, eh6, hq⟩ := bd hq
  refine E_pI d_Tc_state_19 lp_Tc_m_50 rfl eh6 ?_
  refine E_aln 1 d_Tc_state_22 rfl rfl ?_
  obtain ⟨v7, ev7, hq⟩ := bd hq
  refine E_gR d_Tc_state_23 lk_Tc_19 rfl ev7 ?_
  obtain ⟨q9, eq9, hq⟩ := bd hq
  obtain ⟨h8, eh8, hq⟩ := bd hq
  refine E_cV0V d_Tc_state_26 ck_Tc_54 rfl rfl eq9 (Nat.le_of_ble_eq_true rfl) (Nat.le_of_ble_eq_true rfl) (t_Log_forget (by omega) eh8) ?_
  refine E_iln 0 d_Tc_state_29 rfl rfl ?_
  exact E_rI d_Tc_state_30 rfl hq
def f_Tc_within (x0 : Int32) (x1 : Int32) (h : PH) : Option (Int32 × PH) :=
  if x0 < 0 then
    rtZ 0 h
  else
    if x1 < x0 then
      rtZ 0 h
    else
      rtZ 1 h
theorem t_Tc_within {d : Nat} (hd : 0 ≤ d) {x0 : Int32} {x1 : Int32} {h : PH} {r : Int32 × PH} (hq : f_Tc_within x0 x1 h = some r) : E d 0 0 m_Tc_within 0 [(0, .int x0), (1, .int x1)] [] h (PI r) := by
  unfold f_Tc_within at hq
  refine E_iln 0 d_Tc_within_0 rfl rfl ?_
  refine E_zlt (tgt := 13) d_Tc_within_1 (by decide) (fun c => ?_) (fun c => ?_)
  · rw [if_pos c] at hq
    refine E_ic (v := 0) d_Tc_within_13 (by decide) ?_
    exact E_rZ d_Tc_within_14 rfl hq
  · rw [if_neg c] at hq
    refine E_iln 0 d_Tc_within_4 rfl rfl ?_
    refine E_iln 1 d_Tc_within_5 rfl rfl ?_
    refine E_jgt (tgt := 13) d_Tc_within_6 (by decide) (fun c => ?_) (fun c => ?_)
    · rw [if_pos c] at hq
      refine E_ic (v := 0) d_Tc_within_13 (by decide) ?_
      exact E_rZ d_Tc_within_14 rfl hq
    · rw [if_neg c] at hq
      refine E_ic (v := 1) d_Tc_within_9 (by decide) ?_
      refine E_goto (tgt := 14) d_Tc_within_10 (by decide) ?_
      exact E_rZ d_Tc_within_14 rfl hq
def f_Realm_addTraveller (a0 : Nat) (x1 : Int32) (x2 : Int32) (x3 : Int32) (h : PH) : Option (Int32 × PH) :=
  (ldI h 5 a0 1).bind fun v1 =>
  if v1 < 12 then
    (ldR h 5 a0 2).bind fun v2 =>
    (ldI h 5 a0 1).bind fun v3 =>
    (wrA h v2 v3 x1).bind fun h4 =>
    (ldR h4 5 a0 3).bind fun v5 =>
    (ldI h4 5 a0 1).bind fun v6 =>
    (wrA h4 v5 v6 x2).bind fun h7 =>
    (ldR h7 5 a0 4).bind fun v8 =>
    (ldI h7 5 a0 1).bind fun v9 =>
    (wrA h7 v8 v9 x3).bind fun h10 =>
    (ldR h10 5 a0 5).bind fun v11 =>
    (ldI h10 5 a0 1).bind fun v12 =>
    (wrA h10 v11 v12 0).bind fun h13 =>
    (ldR h13 5 a0 6).bind fun v14 =>
    (ldI h13 5 a0 1).bind fun v15 =>
    (wrA h13 v14 v15 (-1)).bind fun h16 =>
    (ldI h16 5 a0 1).bind fun v17 =>
    (stI h16 5 a0 1 (v17 + 1)).bind fun h18 =>
    (ldI h18 5 a0 1).bind fun v19 =>
    some ((v19 - 1), h18)
  else
    some ((-1), h)
theorem t_Realm_addTraveller {d : Nat} (hd : 0 ≤ d) {a0 : Nat} {x1 : Int32} {x2 : Int32} {x3 : Int32} {h : PH} {r : Int32 × PH} (hq : f_Realm_addTraveller a0 x1 x2 x3 h = some r) : E d 0 0 m_Realm_addTraveller 0 [(0, .ref a0), (1, .int x1), (2, .int x2), (3, .int x3)] [] h (PI r) := by
  unfold f_Realm_addTraveller at hq
  refine E_aln 0 d_Realm_addTraveller_0 rfl rfl ?_
  obtain ⟨v1, ev1, hq⟩ := bd hq
  refine E_gI d_Realm_addTraveller_1 lk_Realm_15 rfl ev1 ?_
  refine E_bi (v := 12) d_Realm_addTraveller_4 (by decide) ?_
  refine E_jlt (tgt := 11) d_Realm_addTraveller_6 (by decide) (fun c => ?_) (fun c => ?_)
  · rw [if_pos c] at hq
    refine E_aln 0 d_Realm_addTraveller_11 rfl rfl ?_
    obtain ⟨v2, ev2, hq⟩ := bd hq
    refine E_gR d_Realm_addTraveller_12 lk_Realm_18 rfl ev2 ?_
    refine E_aln 0 d_Realm_addTraveller_15 rfl rfl ?_
    obtain ⟨v3, ev3, hq⟩ := bd hq
    refine E_gI d_Realm_addTraveller_16 lk_Realm_15 rfl ev3 ?_
    refine E_iln 1 d_Realm_addTraveller_19 rfl rfl ?_
    obtain ⟨h4, eh4, hq⟩ := bd hq
    refine E_wa d_Realm_addTraveller_20 eh4 ?_
    refine E_aln 0 d_Realm_addTraveller_21 rfl rfl ?_
    obtain ⟨v5, ev5, hq⟩ := bd hq
    refine E_gR d_Realm_addTraveller_22 lk_Realm_22 rfl ev5 ?_
    refine E_aln 0 d_Realm_addTraveller_25 rfl rfl ?_
    obtain ⟨v6, ev6, hq⟩ := bd hq
    refine E_gI d_Realm_addTraveller_26 lk_Realm_15 rfl ev6 ?_
    refine E_iln 2 d_Realm_addTraveller_29 rfl rfl ?_
    obtain ⟨h7, eh7, hq⟩ := bd hq
    refine E_wa d_Realm_addTraveller_30 eh7 ?_
    refine E_aln 0 d_Realm_addTraveller_31 rfl rfl ?_
    obtain ⟨v8, ev8, hq⟩ := bd hq
    refine E_gR d_Realm_addTraveller_32 lk_Realm_25 rfl ev8 ?_
    refine E_aln 0 d_Realm_addTraveller_35 rfl rfl ?_
    obtain ⟨v9, ev9, hq⟩ := bd hq
    refine E_gI d_Realm_addTraveller_36 lk_Realm_15 rfl ev9 ?_
    refine E_iln 3 d_Realm_addTraveller_39 rfl rfl ?_
    obtain ⟨h10, eh10, hq⟩ := bd hq
    refine E_wa d_Realm_addTraveller_40 eh10 ?_
    refine E_aln 0 d_Realm_addTraveller_41 rfl rfl ?_
    obtain ⟨v11, ev11, hq⟩ := bd hq
    refine E_gR d_Realm_addTraveller_42 lk_Realm_28 rfl ev11 ?_
    refine E_aln 0 d_Realm_addTraveller_45 rfl rfl ?_
    obtain ⟨v12, ev12, hq⟩ := bd hq
    refine E_gI d_Realm_addTraveller_46 lk_Realm_15 rfl ev12 ?_
    refine E_ic (v := 0) d_Realm_addTraveller_49 (by decide) ?_
    obtain ⟨h13, eh13, hq⟩ := bd hq
    refine E_wa d_Realm_addTraveller_50 eh13 ?_
    refine E_aln 0 d_Realm_addTraveller_51 rfl rfl ?_
    obtain ⟨v14, ev14, hq⟩ := bd hq
    refine E_gR d_Realm_addTraveller_52 lk_Realm_31 rfl ev14 ?_
    refine E_aln 0 d_Realm_addTraveller_55 rfl rfl ?_
    obtain ⟨v15, ev15, hq⟩ := bd hq
    refine E_gI d_Realm_addTraveller_56 lk_Realm_15 rfl ev15 ?_
    refine E_ic (v := (-1)) d_Realm_addTraveller_59 (by decide) ?_
    obtain ⟨h16, eh16, hq⟩ := bd hq
    refine E_wa d_Realm_addTraveller_60 eh16 ?_
    refine E_aln 0 d_Realm_addTraveller_61 rfl rfl ?_
    refine E_dupr d_Realm_addTraveller_62 ?_
    obtain ⟨v17, ev17, hq⟩ := bd hq
    refine E_gI d_Realm_addTraveller_63 lk_Realm_15 rfl ev17 ?_
    refine E_ic (v := 1) d_Realm_addTraveller_66 (by decide) ?_
    refine E_iadd d_Realm_addTraveller_67 ?_
    obtain ⟨h18, eh18, hq⟩ := bd hq
    refine E_pI d_Realm_addTraveller_68 lp_Realm_m_15 rfl eh18 ?_
    refine E_aln 0 d_Realm_addTraveller_71 rfl rfl ?_
    obtain ⟨v19, ev19, hq⟩ := bd hq
    refine E_gI d_Realm_addTraveller_72 lk_Realm_15 rfl ev19 ?_
    refine E_ic (v := 1) d_Realm_addTraveller_75 (by decide) ?_
    refine E_isub d_Realm_addTraveller_76 ?_
    exact E_rI d_Realm_addTraveller_77 rfl hq
  · rw [if_neg c] at hq
    refine E_ic (v := (-1)) d_Realm_addTraveller_9 (by decide) ?_
    exact E_rI d_Realm_addTraveller_10 rfl hq
def f_Tc_traveller (a0 : Nat) (x1 : Int32) (x2 : Int32) (x3 : Int32) (h : PH) : Option (Int32 × PH) :=
  (f_Tc_within x1 5 h).bind fun p1 =>
  if p1.1 = 0 then
    some ((-1), p1.2)
  else
    (f_Tc_within x2 9 p1.2).bind fun p2 =>
    if p2.1 = 0 then
      some ((-1), p2.2)
    else
      (f_Tc_within x3 9999 p2.2).bind fun p3 =>
      if p3.1 = 0 then
        some ((-1), p3.2)
      else
        (ldR p3.2 8 a0 0).bind fun v4 =>
        (ldR p3.2 1 v4 0).bind fun v5 =>
        (isO p3.2 5 v5).bind fun _ =>
        (f_Realm_addTraveller v5 x1 x2 x3 p3.2).bind fun p6 =>
        if p6.1 = (-1) then
          some (p6.1, p6.2)
        else
          (ldR p6.2 8 a0 1).bind fun v8 =>
          (isO p6.2 3 v8).bind fun _ =>
          (f_Log_forget v8  p6.2).bind fun h9 =>
          some (p6.1, h9)
theorem t_Tc_traveller {d : Nat} (hd : 1 ≤ d) {a0 : Nat} {x1 : Int32} {x2 : Int32} {x3 : Int32} {h : PH} {r : Int32 × PH} (hq : f_Tc_traveller a0 x1 x2 x3 h = some r) : E d 0 0 m_Tc_traveller 0 [(0, .ref a0), (1, .int x1), (2, .int x2), (3, .int x3)] [] h (PI r) := by
  unfold f_Tc_traveller at hq
  obtain ⟨d, rfl⟩ : ∃ e, d = e + 1 := ⟨d - 1, by omega⟩
  refine E_iln 1 d_Tc_traveller_0 rfl rfl ?_
  refine E_ic (v := 5) d_Tc_traveller_1 (by decide) ?_
  obtain ⟨p1, ep1, hq⟩ := bd hq
  refine E_cS2I d_Tc_traveller_2 ck_Tc_57 (Nat.le_of_ble_eq_true rfl) (Nat.le_of_ble_eq_true rfl) (t_Tc_within (by omega) ep1) ?_
  refine E_zeq (tgt := 27) d_Tc_traveller_5 (by decide) (fun c => ?_) (fun c => ?_)
  · rw [if_pos c] at hq
    refine E_ic (v := (-1)) d_Tc_traveller_27 (by decide) ?_
    exact E_rI d_Tc_traveller_28 rfl hq
  · rw [if_neg c] at hq
    refine E_iln 2 d_Tc_traveller_8 rfl rfl ?_
    refine E_bi (v := 9) d_Tc_traveller_9 (by decide) ?_
    obtain ⟨p2, ep2, hq⟩ := bd hq
    refine E_cS2I d_Tc_traveller_11 ck_Tc_57 (Nat.le_of_ble_eq_true rfl) (Nat.le_of_ble_eq_true rfl) (t_Tc_within (by omega) ep2) ?_
    refine E_zeq (tgt := 27) d_Tc_traveller_14 (by decide) (fun c => ?_) (fun c => ?_)
    · rw [if_pos c] at hq
      refine E_ic (v := (-1)) d_Tc_traveller_27 (by decide) ?_
      exact E_rI d_Tc_traveller_28 rfl hq
    · rw [if_neg c] at hq
      refine E_iln 3 d_Tc_traveller_17 rfl rfl ?_
      refine E_si (v := 9999) d_Tc_traveller_18 (by decide) ?_
      obtain ⟨p3, ep3, hq⟩ := bd hq
      refine E_cS2I d_Tc_traveller_21 ck_Tc_57 (Nat.le_of_ble_eq_true rfl) (Nat.le_of_ble_eq_true rfl) (t_Tc_within (by omega) ep3) ?_
      refine E_zne (tgt := 29) d_Tc_traveller_24 (by decide) (fun c => ?_) (fun c => ?_)
      · rw [if_neg c] at hq
        refine E_aln 0 d_Tc_traveller_29 rfl rfl ?_
        obtain ⟨v4, ev4, hq⟩ := bd hq
        refine E_gR d_Tc_traveller_30 lk_Tc_10 rfl ev4 ?_
        obtain ⟨v5, ev5, hq⟩ := bd hq
        refine E_gR d_Tc_traveller_33 lk_Tc_47 rfl ev5 ?_
        refine E_iln 1 d_Tc_traveller_36 rfl rfl ?_
        refine E_iln 2 d_Tc_traveller_37 rfl rfl ?_
        refine E_iln 3 d_Tc_traveller_38 rfl rfl ?_
        obtain ⟨q7, eq7, hq⟩ := bd hq
        obtain ⟨p6, ep6, hq⟩ := bd hq
        refine E_cV3I d_Tc_traveller_39 ck_Tc_61 rfl rfl eq7 (Nat.le_of_ble_eq_true rfl) (Nat.le_of_ble_eq_true rfl) (t_Realm_addTraveller (by omega) ep6) ?_
        refine E_is (ls' := [(4, .int p6.1), (0, .ref a0), (1, .int x1), (2, .int x2), (3, .int x3)]) d_Tc_traveller_42 (Nat.le_of_ble_eq_true rfl) rfl ?_
        refine E_il 0 d_Tc_traveller_44 rfl ?_
        refine E_ic (v := (-1)) d_Tc_traveller_46 (by decide) ?_
        refine E_jeq (tgt := 57) d_Tc_traveller_47 (by decide) (fun c => ?_) (fun c => ?_)
        · rw [if_pos c] at hq
          refine E_il 0 d_Tc_traveller_57 rfl ?_
          exact E_rI d_Tc_traveller_59 rfl hq
        · rw [if_neg c] at hq
          refine E_aln 1 d_Tc_traveller_50 rfl rfl ?_
          obtain ⟨v8, ev8, hq⟩ := bd hq
          refine E_gR d_Tc_traveller_51 lk_Tc_19 rfl ev8 ?_
          obtain ⟨q10, eq10, hq⟩ := bd hq
          obtain ⟨h9, eh9, hq⟩ := bd hq
          refine E_cV0V d_Tc_traveller_54 ck_Tc_54 rfl rfl eq10 (Nat.le_of_ble_eq_true rfl) (Nat.le_of_ble_eq_true rfl) (t_Log_forget (by omega) eh9) ?_
          refine E_il 0 d_Tc_traveller_57 rfl ?_
          exact E_rI d_Tc_traveller_59 rfl hq
      · rw [if_pos c] at hq
        refine E_ic (v := (-1)) d_Tc_traveller_27 (by decide) ?_
        exact E_rI d_Tc_traveller_28 rfl hq
def f_Realm_addOfficer (a0 : Nat) (x1 : Int32) (x2 : Int32) (x3 : Int32) (h : PH) : Option (Int32 × PH) :=
  (ldI h 5 a0 9).bind fun v1 =>
  if v1 < 6 then
    (ldR h 5 a0 10).bind fun v2 =>
    (ldI h 5 a0 9).bind fun v3 =>
    (wrA h v2 v3 x1).bind fun h4 =>
    (ldR h4 5 a0 11).bind fun v5 =>
    (ldI h4 5 a0 9).bind fun v6 =>
    (wrA h4 v5 v6 x2).bind fun h7 =>
    (ldR h7 5 a0 12).bind fun v8 =>
    (ldI h7 5 a0 9).bind fun v9 =>
    (wrA h7 v8 v9 x3).bind fun h10 =>
    (ldR h10 5 a0 13).bind fun v11 =>
    (ldI h10 5 a0 9).bind fun v12 =>
    (wrA h10 v11 v12 0).bind fun h13 =>
    (ldI h13 5 a0 9).bind fun v14 =>
    (stI h13 5 a0 9 (v14 + 1)).bind fun h15 =>
    (ldI h15 5 a0 9).bind fun v16 =>
    some ((v16 - 1), h15)
  else
    some ((-1), h)
theorem t_Realm_addOfficer {d : Nat} (hd : 0 ≤ d) {a0 : Nat} {x1 : Int32} {x2 : Int32} {x3 : Int32} {h : PH} {r : Int32 × PH} (hq : f_Realm_addOfficer a0 x1 x2 x3 h = some r) : E d 0 0 m_Realm_addOfficer 0 [(0, .ref a0), (1, .int x1), (2, .int x2), (3, .int x3)] [] h (PI r) := by
  unfold f_Realm_addOfficer at hq
  refine E_aln 0 d_Realm_addOfficer_0 rfl rfl ?_
  obtain ⟨v1, ev1, hq⟩ := bd hq
  refine E_gI d_Realm_addOfficer_1 lk_Realm_40 rfl ev1 ?_
  refine E_bi (v := 6) d_Realm_addOfficer_4 (by decide) ?_
  refine E_jlt (tgt := 11) d_Realm_addOfficer_6 (by decide) (fun c => ?_) (fun c => ?_)
  · rw [if_pos c] at hq
    refine E_aln 0 d_Realm_addOfficer_11 rfl rfl ?_
    obtain ⟨v2, ev2, hq⟩ := bd hq
    refine E_gR d_Realm_addOfficer_12 lk_Realm_43 rfl ev2 ?_
    refine E_aln 0 d_Realm_addOfficer_15 rfl rfl ?_
    obtain ⟨v3, ev3, hq⟩ := bd hq
    refine E_gI d_Realm_addOfficer_16 lk_Realm_40 rfl ev3 ?_
    refine E_iln 1 d_Realm_addOfficer_19 rfl rfl ?_
    obtain ⟨h4, eh4, hq⟩ := bd hq
    refine E_wa d_Realm_addOfficer_20 eh4 ?_
    refine E_aln 0 d_Realm_addOfficer_21 rfl rfl ?_
    obtain ⟨v5, ev5, hq⟩ := bd hq
    refine E_gR d_Realm_addOfficer_22 lk_Realm_46 rfl ev5 ?_
    refine E_aln 0 d_Realm_addOfficer_25 rfl rfl ?_
    obtain ⟨v6, ev6, hq⟩ := bd hq
    refine E_gI d_Realm_addOfficer_26 lk_Realm_40 rfl ev6 ?_
    refine E_iln 2 d_Realm_addOfficer_29 rfl rfl ?_
    obtain ⟨h7, eh7, hq⟩ := bd hq
    refine E_wa d_Realm_addOfficer_30 eh7 ?_
    refine E_aln 0 d_Realm_addOfficer_31 rfl rfl ?_
    obtain ⟨v8, ev8, hq⟩ := bd hq
    refine E_gR d_Realm_addOfficer_32 lk_Realm_49 rfl ev8 ?_
    refine E_aln 0 d_Realm_addOfficer_35 rfl rfl ?_
    obtain ⟨v9, ev9, hq⟩ := bd hq
    refine E_gI d_Realm_addOfficer_36 lk_Realm_40 rfl ev9 ?_
    refine E_iln 3 d_Realm_addOfficer_39 rfl rfl ?_
    obtain ⟨h10, eh10, hq⟩ := bd hq
    refine E_wa d_Realm_addOfficer_40 eh10 ?_
    refine E_aln 0 d_Realm_addOfficer_41 rfl rfl ?_
    obtain ⟨v11, ev11, hq⟩ := bd hq
    refine E_gR d_Realm_addOfficer_42 lk_Realm_52 rfl ev11 ?_
    refine E_aln 0 d_Realm_addOfficer_45 rfl rfl ?_
    obtain ⟨v12, ev12, hq⟩ := bd hq
    refine E_gI d_Realm_addOfficer_46 lk_Realm_40 rfl ev12 ?_
    refine E_ic (v := 0) d_Realm_addOfficer_49 (by decide) ?_
    obtain ⟨h13, eh13, hq⟩ := bd hq
    refine E_wa d_Realm_addOfficer_50 eh13 ?_
    refine E_aln 0 d_Realm_addOfficer_51 rfl rfl ?_
    refine E_dupr d_Realm_addOfficer_52 ?_
    obtain ⟨v14, ev14, hq⟩ := bd hq
    refine E_gI d_Realm_addOfficer_53 lk_Realm_40 rfl ev14 ?_
    refine E_ic (v := 1) d_Realm_addOfficer_56 (by decide) ?_
    refine E_iadd d_Realm_addOfficer_57 ?_
    obtain ⟨h15, eh15, hq⟩ := bd hq
    refine E_pI d_Realm_addOfficer_58 lp_Realm_m_40 rfl eh15 ?_
    refine E_aln 0 d_Realm_addOfficer_61 rfl rfl ?_
    obtain ⟨v16, ev16, hq⟩ := bd hq
    refine E_gI d_Realm_addOfficer_62 lk_Realm_40 rfl ev16 ?_
    refine E_ic (v := 1) d_Realm_addOfficer_65 (by decide) ?_
    refine E_isub d_Realm_addOfficer_66 ?_
    exact E_rI d_Realm_addOfficer_67 rfl hq
  · rw [if_neg c] at hq
    refine E_ic (v := (-1)) d_Realm_addOfficer_9 (by decide) ?_
    exact E_rI d_Realm_addOfficer_10 rfl hq
def f_Tc_officer (a0 : Nat) (x1 : Int32) (x2 : Int32) (x3 : Int32) (h : PH) : Option (Int32 × PH) :=
  (f_Tc_within x1 3 h).bind fun p1 =>
  if p1.1 = 0 then
    some ((-1), p1.2)
  else
    (f_Tc_within x2 9 p1.2).bind fun p2 =>
    if p2.1 = 0 then
      some ((-1), p2.2)
    else
      (f_Tc_within x3 9 p2.2).bind fun p3 =>
      if p3.1 = 0 then
        some ((-1), p3.2)
      else
        (ldR p3.2 8 a0 0).bind fun v4 =>
        (ldR p3.2 1 v4 0).bind fun v5 =>
        (isO p3.2 5 v5).bind fun _ =>
        (f_Realm_addOfficer v5 x1 x2 x3 p3.2).bind fun p6 =>
        if p6.1 = (-1) then
          some (p6.1, p6.2)
        else
          (ldR p6.2 8 a0 1).bind fun v8 =>
          (isO p6.2 3 v8).bind fun _ =>
          (f_Log_forget v8  p6.2).bind fun h9 =>
          some (p6.1, h9)
theorem t_Tc_officer {d : Nat} (hd : 1 ≤ d) {a0 : Nat} {x1 : Int32} {x2 : Int32} {x3 : Int32} {h : PH} {r : Int32 × PH} (hq : f_Tc_officer a0 x1 x2 x3 h = some r) : E d 0 0 m_Tc_officer 0 [(0, .ref a0), (1, .int x1), (2, .int x2), (3, .int x3)] [] h (PI r) := by
  unfold f_Tc_officer at hq
  obtain ⟨d, rfl⟩ : ∃ e, d = e + 1 := ⟨d - 1, by omega⟩
  refine E_iln 1 d_Tc_officer_0 rfl rfl ?_
  refine E_ic (v := 3) d_Tc_officer_1 (by decide) ?_
  obtain ⟨p1, ep1, hq⟩ := bd hq
  refine E_cS2I d_Tc_officer_2 ck_Tc_57 (Nat.le_of_ble_eq_true rfl) (Nat.le_of_ble_eq_true rfl) (t_Tc_within (by omega) ep1) ?_
  refine E_zeq (tgt := 26) d_Tc_officer_5 (by decide) (fun c => ?_) (fun c => ?_)
  · rw [if_pos c] at hq
    refine E_ic (v := (-1)) d_Tc_officer_26 (by decide) ?_
    exact E_rI d_Tc_officer_27 rfl hq
  · rw [if_neg c] at hq
    refine E_iln 2 d_Tc_officer_8 rfl rfl ?_
    refine E_bi (v := 9) d_Tc_officer_9 (by decide) ?_
    obtain ⟨p2, ep2, hq⟩ := bd hq
    refine E_cS2I d_Tc_officer_11 ck_Tc_57 (Nat.le_of_ble_eq_true rfl) (Nat.le_of_ble_eq_true rfl) (t_Tc_within (by omega) ep2) ?_
    refine E_zeq (tgt := 26) d_Tc_officer_14 (by decide) (fun c => ?_) (fun c => ?_)
    · rw [if_pos c] at hq
      refine E_ic (v := (-1)) d_Tc_officer_26 (by decide) ?_
      exact E_rI d_Tc_officer_27 rfl hq
    · rw [if_neg c] at hq
      refine E_iln 3 d_Tc_officer_17 rfl rfl ?_
      refine E_bi (v := 9) d_Tc_officer_18 (by decide) ?_
      obtain ⟨p3, ep3, hq⟩ := bd hq
      refine E_cS2I d_Tc_officer_20 ck_Tc_57 (Nat.le_of_ble_eq_true rfl) (Nat.le_of_ble_eq_true rfl) (t_Tc_within (by omega) ep3) ?_
      refine E_zne (tgt := 28) d_Tc_officer_23 (by decide) (fun c => ?_) (fun c => ?_)
      · rw [if_neg c] at hq
        refine E_aln 0 d_Tc_officer_28 rfl rfl ?_
        obtain ⟨v4, ev4, hq⟩ := bd hq
        refine E_gR d_Tc_officer_29 lk_Tc_10 rfl ev4 ?_
        obtain ⟨v5, ev5, hq⟩ := bd hq
        refine E_gR d_Tc_officer_32 lk_Tc_47 rfl ev5 ?_
        refine E_iln 1 d_Tc_officer_35 rfl rfl ?_
        refine E_iln 2 d_Tc_officer_36 rfl rfl ?_
        refine E_iln 3 d_Tc_officer_37 rfl rfl ?_
        obtain ⟨q7, eq7, hq⟩ := bd hq
        obtain ⟨p6, ep6, hq⟩ := bd hq
        refine E_cV3I d_Tc_officer_38 ck_Tc_65 rfl rfl eq7 (Nat.le_of_ble_eq_true rfl) (Nat.le_of_ble_eq_true rfl) (t_Realm_addOfficer (by omega) ep6) ?_
        refine E_is (ls' := [(4, .int p6.1), (0, .ref a0), (1, .int x1), (2, .int x2), (3, .int x3)]) d_Tc_officer_41 (Nat.le_of_ble_eq_true rfl) rfl ?_
        refine E_il 0 d_Tc_officer_43 rfl ?_
        refine E_ic (v := (-1)) d_Tc_officer_45 (by decide) ?_
        refine E_jeq (tgt := 56) d_Tc_officer_46 (by decide) (fun c => ?_) (fun c => ?_)
        · rw [if_pos c] at hq
          refine E_il 0 d_Tc_officer_56 rfl ?_
          exact E_rI d_Tc_officer_58 rfl hq
        · rw [if_neg c] at hq
          refine E_aln 1 d_Tc_officer_49 rfl rfl ?_
          obtain ⟨v8, ev8, hq⟩ := bd hq
          refine E_gR d_Tc_officer_50 lk_Tc_19 rfl ev8 ?_
          obtain ⟨q10, eq10, hq⟩ := bd hq
          obtain ⟨h9, eh9, hq⟩ := bd hq
          refine E_cV0V d_Tc_officer_53 ck_Tc_54 rfl rfl eq10 (Nat.le_of_ble_eq_true rfl) (Nat.le_of_ble_eq_true rfl) (t_Log_forget (by omega) eh9) ?_
          refine E_il 0 d_Tc_officer_56 rfl ?_
          exact E_rI d_Tc_officer_58 rfl hq
      · rw [if_pos c] at hq
        refine E_ic (v := (-1)) d_Tc_officer_26 (by decide) ?_
        exact E_rI d_Tc_officer_27 rfl hq
def f_Realm_isOfficer (a0 : Nat) (x1 : Int32) (h : PH) : Option (Int32 × PH) :=
  if x1 < 0 then
    rtZ 0 h
  else
    (ldI h 5 a0 9).bind fun v1 =>
    if v1 ≤ x1 then
      rtZ 0 h
    else
      rtZ 1 h
theorem t_Realm_isOfficer {d : Nat} (hd : 0 ≤ d) {a0 : Nat} {x1 : Int32} {h : PH} {r : Int32 × PH} (hq : f_Realm_isOfficer a0 x1 h = some r) : E d 0 0 m_Realm_isOfficer 0 [(0, .ref a0), (1, .int x1)] [] h (PI r) := by
  unfold f_Realm_isOfficer at hq
  refine E_iln 1 d_Realm_isOfficer_0 rfl rfl ?_
  refine E_zlt (tgt := 16) d_Realm_isOfficer_1 (by decide) (fun c => ?_) (fun c => ?_)
  · rw [if_pos c] at hq
    refine E_ic (v := 0) d_Realm_isOfficer_16 (by decide) ?_
    exact E_rZ d_Realm_isOfficer_17 rfl hq
  · rw [if_neg c] at hq
    refine E_iln 1 d_Realm_isOfficer_4 rfl rfl ?_
    refine E_aln 0 d_Realm_isOfficer_5 rfl rfl ?_
    obtain ⟨v1, ev1, hq⟩ := bd hq
    refine E_gI d_Realm_isOfficer_6 lk_Realm_40 rfl ev1 ?_
    refine E_jge (tgt := 16) d_Realm_isOfficer_9 (by decide) (fun c => ?_) (fun c => ?_)
    · rw [if_pos c] at hq
      refine E_ic (v := 0) d_Realm_isOfficer_16 (by decide) ?_
      exact E_rZ d_Realm_isOfficer_17 rfl hq
    · rw [if_neg c] at hq
      refine E_ic (v := 1) d_Realm_isOfficer_12 (by decide) ?_
      refine E_goto (tgt := 17) d_Realm_isOfficer_13 (by decide) ?_
      exact E_rZ d_Realm_isOfficer_17 rfl hq
def f_Realm_tellOfficer_58 (x2 : Int32) (x3 : Int32) (s0 : Nat) (h : PH) : Option (Int32 × PH) :=
  (wrA h s0 x2 x3).bind fun h1 =>
  rtZ 1 h1
theorem t_Realm_tellOfficer_58 {d : Nat} (hd : 1 ≤ d) {x2 : Int32} {x3 : Int32} {s0 : Nat} {h : PH} {r : Int32 × PH} (hq : f_Realm_tellOfficer_58 x2 x3 s0 h = some r) : E d 0 0 m_Realm_tellOfficer 58 [(2, .int x2), (3, .int x3)] [.ref s0] h (PI r) := by
  unfold f_Realm_tellOfficer_58 at hq
  obtain ⟨d, rfl⟩ : ∃ e, d = e + 1 := ⟨d - 1, by omega⟩
  refine E_as (ls' := [(5, .ref s0), (2, .int x2), (3, .int x3)]) d_Realm_tellOfficer_58 (Nat.le_of_ble_eq_true rfl) rfl ?_
  refine E_al 0 d_Realm_tellOfficer_60 rfl ?_
  refine E_iln 1 d_Realm_tellOfficer_62 rfl rfl ?_
  refine E_iln 2 d_Realm_tellOfficer_63 rfl rfl ?_
  obtain ⟨h1, eh1, hq⟩ := bd hq
  refine E_wa d_Realm_tellOfficer_64 eh1 ?_
  refine E_ic (v := 1) d_Realm_tellOfficer_65 (by decide) ?_
  exact E_rZ d_Realm_tellOfficer_66 rfl hq
def f_Realm_tellOfficer_21 (a0 : Nat) (x1 : Int32) (x2 : Int32) (x3 : Int32) (s0 : Int32) (h : PH) : Option (Int32 × PH) :=
  (isO h 5 a0).bind fun _ =>
  (f_Realm_isOfficer a0 x2 h).bind fun p1 =>
  if p1.1 = 0 then
    rtZ 0 p1.2
  else
    (f_Tc_within x3 s0 p1.2).bind fun p3 =>
    if p3.1 = 0 then
      rtZ 0 p3.2
    else
      if x1 = 3 then
        (ldR p3.2 5 a0 13).bind fun v5 =>
        f_Realm_tellOfficer_58 x2 x3 v5 p3.2
      else
        (ldR p3.2 5 a0 12).bind fun v4 =>
        f_Realm_tellOfficer_58 x2 x3 v4 p3.2
theorem t_Realm_tellOfficer_21 {d : Nat} (hd : 1 ≤ d) {a0 : Nat} {x1 : Int32} {x2 : Int32} {x3 : Int32} {s0 : Int32} {h : PH} {r : Int32 × PH} (hq : f_Realm_tellOfficer_21 a0 x1 x2 x3 s0 h = some r) : E d 0 0 m_Realm_tellOfficer 21 [(0, .ref a0), (1, .int x1), (2, .int x2), (3, .int x3)] [.int s0] h (PI r) := by
  unfold f_Realm_tellOfficer_21 at hq
  obtain ⟨d, rfl⟩ : ∃ e, d = e + 1 := ⟨d - 1, by omega⟩
  refine E_is (ls' := [(4, .int s0), (0, .ref a0), (1, .int x1), (2, .int x2), (3, .int x3)]) d_Realm_tellOfficer_21 (Nat.le_of_ble_eq_true rfl) rfl ?_
  refine E_aln 1 d_Realm_tellOfficer_23 rfl rfl ?_
  refine E_iln 3 d_Realm_tellOfficer_24 rfl rfl ?_
  obtain ⟨q2, eq2, hq⟩ := bd hq
  obtain ⟨p1, ep1, hq⟩ := bd hq
  refine E_cV1I d_Realm_tellOfficer_25 ck_Realm_87 rfl rfl eq2 (Nat.le_of_ble_eq_true rfl) (Nat.le_of_ble_eq_true rfl) (t_Realm_isOfficer (by omega) ep1) ?_
  refine E_zeq (tgt := 40) d_Realm_tellOfficer_28 (by decide) (fun c => ?_) (fun c => ?_)
  · rw [if_pos c] at hq
    refine E_ic (v := 0) d_Realm_tellOfficer_40 (by decide) ?_
    exact E_rZ d_Realm_tellOfficer_41 rfl hq
  · rw [if_neg c] at hq
    refine E_iln 4 d_Realm_tellOfficer_31 rfl rfl ?_
    refine E_il 0 d_Realm_tellOfficer_32 rfl ?_
    obtain ⟨p3, ep3, hq⟩ := bd hq
    refine E_cS2I d_Realm_tellOfficer_34 ck_Realm_83 (Nat.le_of_ble_eq_true rfl) (Nat.le_of_ble_eq_true rfl) (t_Tc_within (by omega) ep3) ?_
    refine E_zne (tgt := 42) d_Realm_tellOfficer_37 (by decide) (fun c => ?_) (fun c => ?_)
    · rw [if_neg c] at hq
      refine E_iln 2 d_Realm_tellOfficer_42 rfl rfl ?_
      refine E_ic (v := 3) d_Realm_tellOfficer_43 (by decide) ?_
      refine E_jne (tgt := 54) d_Realm_tellOfficer_44 (by decide) (fun c => ?_) (fun c => ?_)
      · rw [if_neg c] at hq
        refine E_aln 1 d_Realm_tellOfficer_54 rfl rfl ?_
        obtain ⟨v4, ev4, hq⟩ := bd hq
        refine E_gR d_Realm_tellOfficer_55 lk_Realm_49 rfl ev4 ?_
        exact E_sub (ks := [3, 4]) rfl <| t_Realm_tellOfficer_58 (by omega) hq
      · rw [if_pos c] at hq
        refine E_aln 1 d_Realm_tellOfficer_47 rfl rfl ?_
        obtain ⟨v5, ev5, hq⟩ := bd hq
        refine E_gR d_Realm_tellOfficer_48 lk_Realm_52 rfl ev5 ?_
        refine E_goto (tgt := 58) d_Realm_tellOfficer_51 (by decide) ?_
        exact E_sub (ks := [3, 4]) rfl <| t_Realm_tellOfficer_58 (by omega) hq
    · rw [if_pos c] at hq
      refine E_ic (v := 0) d_Realm_tellOfficer_40 (by decide) ?_
      exact E_rZ d_Realm_tellOfficer_41 rfl hq
def f_Realm_tellOfficer (a0 : Nat) (x1 : Int32) (x2 : Int32) (x3 : Int32) (h : PH) : Option (Int32 × PH) :=
  if x1 = 3 then
    f_Realm_tellOfficer_21 a0 x1 x2 x3 9 h
  else
    if x1 = 4 then
      f_Realm_tellOfficer_21 a0 x1 x2 x3 9 h
    else
      f_Realm_tellOfficer_21 a0 x1 x2 x3 (-1) h
theorem t_Realm_tellOfficer {d : Nat} (hd : 1 ≤ d) {a0 : Nat} {x1 : Int32} {x2 : Int32} {x3 : Int32} {h : PH} {r : Int32 × PH} (hq : f_Realm_tellOfficer a0 x1 x2 x3 h = some r) : E d 0 0 m_Realm_tellOfficer 0 [(0, .ref a0), (1, .int x1), (2, .int x2), (3, .int x3)] [] h (PI r) := by
  unfold f_Realm_tellOfficer at hq
  obtain ⟨d, rfl⟩ : ∃ e, d = e + 1 := ⟨d - 1, by omega⟩
  refine E_iln 1 d_Realm_tellOfficer_0 rfl rfl ?_
  refine E_ic (v := 3) d_Realm_tellOfficer_1 (by decide) ?_
  refine E_jne (tgt := 10) d_Realm_tellOfficer_2 (by decide) (fun c => ?_) (fun c => ?_)
  · rw [if_neg c] at hq
    refine E_iln 1 d_Realm_tellOfficer_10 rfl rfl ?_
    refine E_ic (v := 4) d_Realm_tellOfficer_11 (by decide) ?_
    refine E_jne (tgt := 20) d_Realm_tellOfficer_12 (by decide) (fun c => ?_) (fun c => ?_)
    · rw [if_neg c] at hq
      refine E_ic (v := (-1)) d_Realm_tellOfficer_20 (by decide) ?_
      exact t_Realm_tellOfficer_21 (by omega) hq
    · rw [if_pos c] at hq
      refine E_bi (v := 9) d_Realm_tellOfficer_15 (by decide) ?_
      refine E_goto (tgt := 21) d_Realm_tellOfficer_17 (by decide) ?_
      exact t_Realm_tellOfficer_21 (by omega) hq
  · rw [if_pos c] at hq
    refine E_bi (v := 9) d_Realm_tellOfficer_5 (by decide) ?_
    refine E_goto (tgt := 21) d_Realm_tellOfficer_7 (by decide) ?_
    exact t_Realm_tellOfficer_21 (by omega) hq
def f_Realm_isTraveller (a0 : Nat) (x1 : Int32) (h : PH) : Option (Int32 × PH) :=
  if x1 < 0 then
    rtZ 0 h
  else
    (ldI h 5 a0 1).bind fun v1 =>
    if v1 ≤ x1 then
      rtZ 0 h
    else
      rtZ 1 h
theorem t_Realm_isTraveller {d : Nat} (hd : 0 ≤ d) {a0 : Nat} {x1 : Int32} {h : PH} {r : Int32 × PH} (hq : f_Realm_isTraveller a0 x1 h = some r) : E d 0 0 m_Realm_isTraveller 0 [(0, .ref a0), (1, .int x1)] [] h (PI r) := by
  unfold f_Realm_isTraveller at hq
  refine E_iln 1 d_Realm_isTraveller_0 rfl rfl ?_
  refine E_zlt (tgt := 16) d_Realm_isTraveller_1 (by decide) (fun c => ?_) (fun c => ?_)
  · rw [if_pos c] at hq
    refine E_ic (v := 0) d_Realm_isTraveller_16 (by decide) ?_
    exact E_rZ d_Realm_isTraveller_17 rfl hq
  · rw [if_neg c] at hq
    refine E_iln 1 d_Realm_isTraveller_4 rfl rfl ?_
    refine E_aln 0 d_Realm_isTraveller_5 rfl rfl ?_
    obtain ⟨v1, ev1, hq⟩ := bd hq
    refine E_gI d_Realm_isTraveller_6 lk_Realm_15 rfl ev1 ?_
    refine E_jge (tgt := 16) d_Realm_isTraveller_9 (by decide) (fun c => ?_) (fun c => ?_)
    · rw [if_pos c] at hq
      refine E_ic (v := 0) d_Realm_isTraveller_16 (by decide) ?_
      exact E_rZ d_Realm_isTraveller_17 rfl hq
    · rw [if_neg c] at hq
      refine E_ic (v := 1) d_Realm_isTraveller_12 (by decide) ?_
      refine E_goto (tgt := 17) d_Realm_isTraveller_13 (by decide) ?_
      exact E_rZ d_Realm_isTraveller_17 rfl hq
def f_Realm_tellTraveller_79 (x2 : Int32) (x3 : Int32) (s0 : Nat) (h : PH) : Option (Int32 × PH) :=
  (wrA h s0 x2 x3).bind fun h1 =>
  rtZ 1 h1
theorem t_Realm_tellTraveller_79 {d : Nat} (hd : 1 ≤ d) {x2 : Int32} {x3 : Int32} {s0 : Nat} {h : PH} {r : Int32 × PH} (hq : f_Realm_tellTraveller_79 x2 x3 s0 h = some r) : E d 0 0 m_Realm_tellTraveller 79 [(2, .int x2), (3, .int x3)] [.ref s0] h (PI r) := by
  unfold f_Realm_tellTraveller_79 at hq
  obtain ⟨d, rfl⟩ : ∃ e, d = e + 1 := ⟨d - 1, by omega⟩
  refine E_as (ls' := [(5, .ref s0), (2, .int x2), (3, .int x3)]) d_Realm_tellTraveller_79 (Nat.le_of_ble_eq_true rfl) rfl ?_
  refine E_al 0 d_Realm_tellTraveller_81 rfl ?_
  refine E_iln 1 d_Realm_tellTraveller_83 rfl rfl ?_
  refine E_iln 2 d_Realm_tellTraveller_84 rfl rfl ?_
  obtain ⟨h1, eh1, hq⟩ := bd hq
  refine E_wa d_Realm_tellTraveller_85 eh1 ?_
  refine E_ic (v := 1) d_Realm_tellTraveller_86 (by decide) ?_
  exact E_rZ d_Realm_tellTraveller_87 rfl hq
def f_Realm_tellTraveller_31 (a0 : Nat) (x1 : Int32) (x2 : Int32) (x3 : Int32) (s0 : Int32) (h : PH) : Option (Int32 × PH) :=
  (isO h 5 a0).bind fun _ =>
  (f_Realm_isTraveller a0 x2 h).bind fun p1 =>
  if p1.1 = 0 then
    rtZ 0 p1.2
  else
    (f_Tc_within x3 s0 p1.2).bind fun p3 =>
    if p3.1 = 0 then
      rtZ 0 p3.2
    else
      if x1 = 0 then
        (ldR p3.2 5 a0 4).bind fun v6 =>
        f_Realm_tellTraveller_79 x2 x3 v6 p3.2
      else
        if x1 = 1 then
          (ldR p3.2 5 a0 5).bind fun v5 =>
          f_Realm_tellTraveller_79 x2 x3 v5 p3.2
        else
          (ldR p3.2 5 a0 3).bind fun v4 =>
          f_Realm_tellTraveller_79 x2 x3 v4 p3.2
theorem t_Realm_tellTraveller_31 {d : Nat} (hd : 1 ≤ d) {a0 : Nat} {x1 : Int32} {x2 : Int32} {x3 : Int32} {s0 : Int32} {h : PH} {r : Int32 × PH} (hq : f_Realm_tellTraveller_31 a0 x1 x2 x3 s0 h = some r) : E d 0 0 m_Realm_tellTraveller 31 [(0, .ref a0), (1, .int x1), (2, .int x2), (3, .int x3)] [.int s0] h (PI r) := by
  unfold f_Realm_tellTraveller_31 at hq
  obtain ⟨d, rfl⟩ : ∃ e, d = e + 1 := ⟨d - 1, by omega⟩
  refine E_is (ls' := [(4, .int s0), (0, .ref a0), (1, .int x1), (2, .int x2), (3, .int x3)]) d_Realm_tellTraveller_31 (Nat.le_of_ble_eq_true rfl) rfl ?_
  refine E_aln 1 d_Realm_tellTraveller_33 rfl rfl ?_
  refine E_iln 3 d_Realm_tellTraveller_34 rfl rfl ?_
  obtain ⟨q2, eq2, hq⟩ := bd hq
  obtain ⟨p1, ep1, hq⟩ := bd hq
  refine E_cV1I d_Realm_tellTraveller_35 ck_Realm_79 rfl rfl eq2 (Nat.le_of_ble_eq_true rfl) (Nat.le_of_ble_eq_true rfl) (t_Realm_isTraveller (by omega) ep1) ?_
  refine E_zeq (tgt := 50) d_Realm_tellTraveller_38 (by decide) (fun c => ?_) (fun c => ?_)
  · rw [if_pos c] at hq
    refine E_ic (v := 0) d_Realm_tellTraveller_50 (by decide) ?_
    exact E_rZ d_Realm_tellTraveller_51 rfl hq
  · rw [if_neg c] at hq
    refine E_iln 4 d_Realm_tellTraveller_41 rfl rfl ?_
    refine E_il 0 d_Realm_tellTraveller_42 rfl ?_
    obtain ⟨p3, ep3, hq⟩ := bd hq
    refine E_cS2I d_Realm_tellTraveller_44 ck_Realm_83 (Nat.le_of_ble_eq_true rfl) (Nat.le_of_ble_eq_true rfl) (t_Tc_within (by omega) ep3) ?_
    refine E_zne (tgt := 52) d_Realm_tellTraveller_47 (by decide) (fun c => ?_) (fun c => ?_)
    · rw [if_neg c] at hq
      refine E_iln 2 d_Realm_tellTraveller_52 rfl rfl ?_
      refine E_zne (tgt := 63) d_Realm_tellTraveller_53 (by decide) (fun c => ?_) (fun c => ?_)
      · rw [if_neg c] at hq
        refine E_iln 2 d_Realm_tellTraveller_63 rfl rfl ?_
        refine E_ic (v := 1) d_Realm_tellTraveller_64 (by decide) ?_
        refine E_jne (tgt := 75) d_Realm_tellTraveller_65 (by decide) (fun c => ?_) (fun c => ?_)
        · rw [if_neg c] at hq
          refine E_aln 1 d_Realm_tellTraveller_75 rfl rfl ?_
          obtain ⟨v4, ev4, hq⟩ := bd hq
          refine E_gR d_Realm_tellTraveller_76 lk_Realm_22 rfl ev4 ?_
          exact E_sub (ks := [3, 4]) rfl <| t_Realm_tellTraveller_79 (by omega) hq
        · rw [if_pos c] at hq
          refine E_aln 1 d_Realm_tellTraveller_68 rfl rfl ?_
          obtain ⟨v5, ev5, hq⟩ := bd hq
          refine E_gR d_Realm_tellTraveller_69 lk_Realm_28 rfl ev5 ?_
          refine E_goto (tgt := 79) d_Realm_tellTraveller_72 (by decide) ?_
          exact E_sub (ks := [3, 4]) rfl <| t_Realm_tellTraveller_79 (by omega) hq
      · rw [if_pos c] at hq
        refine E_aln 1 d_Realm_tellTraveller_56 rfl rfl ?_
        obtain ⟨v6, ev6, hq⟩ := bd hq
        refine E_gR d_Realm_tellTraveller_57 lk_Realm_25 rfl ev6 ?_
        refine E_goto (tgt := 79) d_Realm_tellTraveller_60 (by decide) ?_
        exact E_sub (ks := [3, 4]) rfl <| t_Realm_tellTraveller_79 (by omega) hq
    · rw [if_pos c] at hq
      refine E_ic (v := 0) d_Realm_tellTraveller_50 (by decide) ?_
      exact E_rZ d_Realm_tellTraveller_51 rfl hq
def f_Realm_tellTraveller (a0 : Nat) (x1 : Int32) (x2 : Int32) (x3 : Int32) (h : PH) : Option (Int32 × PH) :=
  if x1 = 0 then
    f_Realm_tellTraveller_31 a0 x1 x2 x3 9999 h
  else
    if x1 = 1 then
      f_Realm_tellTraveller_31 a0 x1 x2 x3 99 h
    else
      if x1 = 2 then
        f_Realm_tellTraveller_31 a0 x1 x2 x3 9 h
      else
        f_Realm_tellTraveller_31 a0 x1 x2 x3 (-1) h
theorem t_Realm_tellTraveller {d : Nat} (hd : 1 ≤ d) {a0 : Nat} {x1 : Int32} {x2 : Int32} {x3 : Int32} {h : PH} {r : Int32 × PH} (hq : f_Realm_tellTraveller a0 x1 x2 x3 h = some r) : E d 0 0 m_Realm_tellTraveller 0 [(0, .ref a0), (1, .int x1), (2, .int x2), (3, .int x3)] [] h (PI r) := by
  unfold f_Realm_tellTraveller at hq
  obtain ⟨d, rfl⟩ : ∃ e, d = e + 1 := ⟨d - 1, by omega⟩
  refine E_iln 1 d_Realm_tellTraveller_0 rfl rfl ?_
  refine E_zne (tgt := 10) d_Realm_tellTraveller_1 (by decide) (fun c => ?_) (fun c => ?_)
  · rw [if_neg c] at hq
    refine E_iln 1 d_Realm_tellTraveller_10 rfl rfl ?_
    refine E_ic (v := 1) d_Realm_tellTraveller_11 (by decide) ?_
    refine E_jne (tgt := 20) d_Realm_tellTraveller_12 (by decide) (fun c => ?_) (fun c => ?_)
    · rw [if_neg c] at hq
      refine E_iln 1 d_Realm_tellTraveller_20 rfl rfl ?_
      refine E_ic (v := 2) d_Realm_tellTraveller_21 (by decide) ?_
      refine E_jne (tgt := 30) d_Realm_tellTraveller_22 (by decide) (fun c => ?_) (fun c => ?_)
      · rw [if_neg c] at hq
        refine E_ic (v := (-1)) d_Realm_tellTraveller_30 (by decide) ?_
        exact t_Realm_tellTraveller_31 (by omega) hq
      · rw [if_pos c] at hq
        refine E_bi (v := 9) d_Realm_tellTraveller_25 (by decide) ?_
        refine E_goto (tgt := 31) d_Realm_tellTraveller_27 (by decide) ?_
        exact t_Realm_tellTraveller_31 (by omega) hq
    · rw [if_pos c] at hq
      refine E_bi (v := 99) d_Realm_tellTraveller_15 (by decide) ?_
      refine E_goto (tgt := 31) d_Realm_tellTraveller_17 (by decide) ?_
      exact t_Realm_tellTraveller_31 (by omega) hq
  · rw [if_pos c] at hq
    refine E_si (v := 9999) d_Realm_tellTraveller_4 (by decide) ?_
    refine E_goto (tgt := 31) d_Realm_tellTraveller_7 (by decide) ?_
    exact t_Realm_tellTraveller_31 (by omega) hq
def f_Tc_set_34 (a0 : Nat) (s0 : Int32) (h : PH) : Option (Int32 × PH) :=
  if s0 = 0 then
    rtZ s0 h
  else
    (ldR h 8 a0 1).bind fun v1 =>
    (isO h 3 v1).bind fun _ =>
    (f_Log_forget v1  h).bind fun h2 =>
    rtZ s0 h2
theorem t_Tc_set_34 {d : Nat} (hd : 2 ≤ d) {a0 : Nat} {s0 : Int32} {h : PH} {r : Int32 × PH} (hq : f_Tc_set_34 a0 s0 h = some r) : E d 0 0 m_Tc_set 34 [(0, .ref a0)] [.int s0] h (PI r) := by
  unfold f_Tc_set_34 at hq
  obtain ⟨d, rfl⟩ : ∃ e, d = e + 1 := ⟨d - 1, by omega⟩
  refine E_is (ls' := [(4, .int s0), (0, .ref a0)]) d_Tc_set_34 (Nat.le_of_ble_eq_true rfl) rfl ?_
  refine E_il 0 d_Tc_set_36 rfl ?_
  refine E_zeq (tgt := 48) d_Tc_set_38 (by decide) (fun c => ?_) (fun c => ?_)
  · rw [if_pos c] at hq
    refine E_il 0 d_Tc_set_48 rfl ?_
    exact E_rZ d_Tc_set_50 rfl hq
  · rw [if_neg c] at hq
    refine E_aln 1 d_Tc_set_41 rfl rfl ?_
    obtain ⟨v1, ev1, hq⟩ := bd hq
    refine E_gR d_Tc_set_42 lk_Tc_19 rfl ev1 ?_
    obtain ⟨q3, eq3, hq⟩ := bd hq
    obtain ⟨h2, eh2, hq⟩ := bd hq
    refine E_cV0V d_Tc_set_45 ck_Tc_54 rfl rfl eq3 (Nat.le_of_ble_eq_true rfl) (Nat.le_of_ble_eq_true rfl) (t_Log_forget (by omega) eh2) ?_
    refine E_il 0 d_Tc_set_48 rfl ?_
    exact E_rZ d_Tc_set_50 rfl hq
def f_Tc_set (a0 : Nat) (x1 : Int32) (x2 : Int32) (x3 : Int32) (h : PH) : Option (Int32 × PH) :=
  if x1 < 3 then
    (ldR h 8 a0 0).bind fun v1 =>
    (ldR h 1 v1 0).bind fun v2 =>
    (isO h 5 v2).bind fun _ =>
    (f_Realm_tellTraveller v2 x1 x2 x3 h).bind fun p3 =>
    f_Tc_set_34 a0 p3.1 p3.2
  else
    (ldR h 8 a0 0).bind fun v5 =>
    (ldR h 1 v5 0).bind fun v6 =>
    (isO h 5 v6).bind fun _ =>
    (f_Realm_tellOfficer v6 x1 x2 x3 h).bind fun p7 =>
    f_Tc_set_34 a0 p7.1 p7.2
theorem t_Tc_set {d : Nat} (hd : 2 ≤ d) {a0 : Nat} {x1 : Int32} {x2 : Int32} {x3 : Int32} {h : PH} {r : Int32 × PH} (hq : f_Tc_set a0 x1 x2 x3 h = some r) : E d 0 0 m_Tc_set 0 [(0, .ref a0), (1, .int x1), (2, .int x2), (3, .int x3)] [] h (PI r) := by
  unfold f_Tc_set at hq
  obtain ⟨d, rfl⟩ : ∃ e, d = e + 1 := ⟨d - 1, by omega⟩
  refine E_iln 1 d_Tc_set_0 rfl rfl ?_
  refine E_ic (v := 3) d_Tc_set_1 (by decide) ?_
  refine E_jlt (tgt := 21) d_Tc_set_2 (by decide) (fun c => ?_) (fun c => ?_)
  · rw [if_pos c] at hq
    refine E_aln 0 d_Tc_set_21 rfl rfl ?_
    obtain ⟨v1, ev1, hq⟩ := bd hq
    refine E_gR d_Tc_set_22 lk_Tc_10 rfl ev1 ?_
    obtain ⟨v2, ev2, hq⟩ := bd hq
    refine E_gR d_Tc_set_25 lk_Tc_47 rfl ev2 ?_
    refine E_iln 1 d_Tc_set_28 rfl rfl ?_
    refine E_iln 2 d_Tc_set_29 rfl rfl ?_
    refine E_iln 3 d_Tc_set_30 rfl rfl ?_
    obtain ⟨q4, eq4, hq⟩ := bd hq
    obtain ⟨p3, ep3, hq⟩ := bd hq
    refine E_cV3I d_Tc_set_31 ck_Tc_72 rfl rfl eq4 (Nat.le_of_ble_eq_true rfl) (Nat.le_of_ble_eq_true rfl) (t_Realm_tellTraveller (by omega) ep3) ?_
    exact E_sub (ks := [0]) rfl <| t_Tc_set_34 (by omega) hq
  · rw [if_neg c] at hq
    refine E_aln 0 d_Tc_set_5 rfl rfl ?_
    obtain ⟨v5, ev5, hq⟩ := bd hq
    refine E_gR d_Tc_set_6 lk_Tc_10 rfl ev5 ?_
    obtain ⟨v6, ev6, hq⟩ := bd hq
    refine E_gR d_Tc_set_9 lk_Tc_47 rfl ev6 ?_
    refine E_iln 1 d_Tc_set_12 rfl rfl ?_
    refine E_iln 2 d_Tc_set_13 rfl rfl ?_
    refine E_iln 3 d_Tc_set_14 rfl rfl ?_
    obtain ⟨q8, eq8, hq⟩ := bd hq
    obtain ⟨p7, ep7, hq⟩ := bd hq
    refine E_cV3I d_Tc_set_15 ck_Tc_68 rfl rfl eq8 (Nat.le_of_ble_eq_true rfl) (Nat.le_of_ble_eq_true rfl) (t_Realm_tellOfficer (by omega) ep7) ?_
    refine E_goto (tgt := 34) d_Tc_set_18 (by decide) ?_
    exact E_sub (ks := [0]) rfl <| t_Tc_set_34 (by omega) hq
def f_Realm_isOpen (a0 : Nat) (x1 : Int32) (h : PH) : Option (Int32 × PH) :=
  (ldI h 5 a0 14).bind fun v1 =>
  if ((jshr v1 x1) &&& 1) = 1 then
    rtZ 1 h
  else
    rtZ 0 h
theorem t_Realm_isOpen {d : Nat} (hd : 0 ≤ d) {a0 : Nat} {x1 : Int32} {h : PH} {r : Int32 × PH} (hq : f_Realm_isOpen a0 x1 h = some r) : E d 0 0 m_Realm_isOpen 0 [(0, .ref a0), (1, .int x1)] [] h (PI r) := by
  unfold f_Realm_isOpen at hq
  refine E_aln 0 d_Realm_isOpen_0 rfl rfl ?_
  obtain ⟨v1, ev1, hq⟩ := bd hq
  refine E_gI d_Realm_isOpen_1 lk_Realm_55 rfl ev1 ?_
  refine E_iln 1 d_Realm_isOpen_4 rfl rfl ?_
  refine E_ishr d_Realm_isOpen_5 ?_
  refine E_ic (v := 1) d_Realm_isOpen_6 (by decide) ?_
  refine E_iand d_Realm_isOpen_7 ?_
  refine E_ic (v := 1) d_Realm_isOpen_8 (by decide) ?_
  refine E_jne (tgt := 16) d_Realm_isOpen_9 (by decide) (fun c => ?_) (fun c => ?_)
  · rw [if_neg c] at hq
    refine E_ic (v := 0) d_Realm_isOpen_16 (by decide) ?_
    exact E_rZ d_Realm_isOpen_17 rfl hq
  · rw [if_pos c] at hq
    refine E_ic (v := 1) d_Realm_isOpen_12 (by decide) ?_
    refine E_goto (tgt := 17) d_Realm_isOpen_13 (by decide) ?_
    exact E_rZ d_Realm_isOpen_17 rfl hq
def f_Realm_isInside (a0 : Nat) (x1 : Int32) (h : PH) : Option (Int32 × PH) :=
  (isO h 5 a0).bind fun _ =>
  (f_Realm_isTraveller a0 x1 h).bind fun p1 =>
  if p1.1 = 0 then
    rtZ 0 p1.2
  else
    (ldI p1.2 5 a0 7).bind fun v3 =>
    if ((jshr v3 x1) &&& 1) = 0 then
      rtZ 1 p1.2
    else
      rtZ 0 p1.2
theorem t_Realm_isInside {d : Nat} (hd : 1 ≤ d) {a0 : Nat} {x1 : Int32} {h : PH} {r : Int32 × PH} (hq : f_Realm_isInside a0 x1 h = some r) : E d 0 0 m_Realm_isInside 0 [(0, .ref a0), (1, .int x1)] [] h (PI r) := by
  unfold f_Realm_isInside at hq
  obtain ⟨d, rfl⟩ : ∃ e, d = e + 1 := ⟨d - 1, by omega⟩
  refine E_aln 0 d_Realm_isInside_0 rfl rfl ?_
  refine E_iln 1 d_Realm_isInside_1 rfl rfl ?_
  obtain ⟨q2, eq2, hq⟩ := bd hq
  obtain ⟨p1, ep1, hq⟩ := bd hq
  refine E_cV1I d_Realm_isInside_2 ck_Realm_79 rfl rfl eq2 (Nat.le_of_ble_eq_true rfl) (Nat.le_of_ble_eq_true rfl) (t_Realm_isTraveller (by omega) ep1) ?_
  refine E_zeq (tgt := 23) d_Realm_isInside_5 (by decide) (fun c => ?_) (fun c => ?_)
  · rw [if_pos c] at hq
    refine E_ic (v := 0) d_Realm_isInside_23 (by decide) ?_
    exact E_rZ d_Realm_isInside_24 rfl hq
  · rw [if_neg c] at hq
    refine E_aln 0 d_Realm_isInside_8 rfl rfl ?_
    obtain ⟨v3, ev3, hq⟩ := bd hq
    refine E_gI d_Realm_isInside_9 lk_Realm_34 rfl ev3 ?_
    refine E_iln 1 d_Realm_isInside_12 rfl rfl ?_
    refine E_ishr d_Realm_isInside_13 ?_
    refine E_ic (v := 1) d_Realm_isInside_14 (by decide) ?_
    refine E_iand d_Realm_isInside_15 ?_
    refine E_zne (tgt := 23) d_Realm_isInside_16 (by decide) (fun c => ?_) (fun c => ?_)
    · rw [if_neg c] at hq
      refine E_ic (v := 0) d_Realm_isInside_23 (by decide) ?_
      exact E_rZ d_Realm_isInside_24 rfl hq
    · rw [if_pos c] at hq
      refine E_ic (v := 1) d_Realm_isInside_19 (by decide) ?_
      refine E_goto (tgt := 24) d_Realm_isInside_20 (by decide) ?_
      exact E_rZ d_Realm_isInside_24 rfl hq
def f_Realm_canDo (a0 : Nat) (x1 : Int32) (x2 : Int32) (x3 : Int32) (h : PH) : Option (Int32 × PH) :=
  if x1 = 0 then
    (isO h 5 a0).bind fun _ =>
    (f_Realm_isInside a0 x2 h).bind fun p1 =>
    if p1.1 = 0 then
      rtZ 0 p1.2
    else
      (f_Tc_within x3 3 p1.2).bind fun p3 =>
      if p3.1 = 0 then
        rtZ 0 p3.2
      else
        rtZ 1 p3.2
  else
    if x1 = 1 then
      (isO h 5 a0).bind fun _ =>
      (f_Realm_isInside a0 x2 h).bind fun p4 =>
      rtZ p4.1 p4.2
    else
      if x1 = 2 then
        (isO h 5 a0).bind fun _ =>
        (f_Realm_isInside a0 x2 h).bind fun p6 =>
        rtZ p6.1 p6.2
      else
        if x1 = 3 then
          (isO h 5 a0).bind fun _ =>
          (f_Realm_isOfficer a0 x2 h).bind fun p8 =>
          if p8.1 = 0 then
            rtZ 0 p8.2
          else
            (f_Tc_within x3 3 p8.2).bind fun p10 =>
            if p10.1 = 0 then
              rtZ 0 p10.2
            else
              rtZ 1 p10.2
        else
          if x1 = 4 then
            (f_Tc_within x2 3 h).bind fun p11 =>
            if p11.1 = 0 then
              rtZ 0 p11.2
            else
              (isO p11.2 5 a0).bind fun _ =>
              (f_Realm_isOpen a0 x2 p11.2).bind fun p12 =>
              if p12.1 = 0 then
                rtZ 1 p12.2
              else
                rtZ 0 p12.2
          else
            if x1 = 5 then
              (f_Tc_within x2 3 h).bind fun p14 =>
              if p14.1 = 0 then
                rtZ 0 p14.2
              else
                (isO p14.2 5 a0).bind fun _ =>
                (f_Realm_isOpen a0 x2 p14.2).bind fun p15 =>
                if p15.1 = 0 then
                  rtZ 0 p15.2
                else
                  rtZ 1 p15.2
            else
              rtZ 0 h
theorem t_Realm_canDo {d : Nat} (hd : 2 ≤ d) {a0 : Nat} {x1 : Int32} {x2 : Int32} {x3 : Int32} {h : PH} {r : Int32 × PH} (hq : f_Realm_canDo a0 x1 x2 x3 h = some r) : E d 0 0 m_Realm_canDo 0 [(0, .ref a0), (1, .int x1), (2, .int x2), (3, .int x3)] [] h (PI r) := by
  unfold f_Realm_canDo at hq
  obtain ⟨d, rfl⟩ : ∃ e, d = e + 1 := ⟨d - 1, by omega⟩
  refine E_iln 1 d_Realm_canDo_0 rfl rfl ?_
  by_cases c0 : x1 = 0
  · rw [if_pos c0] at hq
    refine E_table (tgt := 40) d_Realm_canDo_1 (by rw [c0]; decide) (fun _ _ => ⟨39, by rw [c0]; decide, by decide⟩) ?_
    refine E_aln 0 d_Realm_canDo_40 rfl rfl ?_
    refine E_iln 2 d_Realm_canDo_41 rfl rfl ?_
    obtain ⟨q2, eq2, hq⟩ := bd hq
    obtain ⟨p1, ep1, hq⟩ := bd hq
    refine E_cV1I d_Realm_canDo_42 ck_Realm_90 rfl rfl eq2 (Nat.le_of_ble_eq_true rfl) (Nat.le_of_ble_eq_true rfl) (t_Realm_isInside (by omega) ep1) ?_
    refine E_zeq (tgt := 60) d_Realm_canDo_45 (by decide) (fun c => ?_) (fun c => ?_)
    · rw [if_pos c] at hq
      refine E_ic (v := 0) d_Realm_canDo_60 (by decide) ?_
      exact E_rZ d_Realm_canDo_61 rfl hq
    · rw [if_neg c] at hq
      refine E_iln 3 d_Realm_canDo_48 rfl rfl ?_
      refine E_ic (v := 3) d_Realm_canDo_49 (by decide) ?_
      obtain ⟨p3, ep3, hq⟩ := bd hq
      refine E_cS2I d_Realm_canDo_50 ck_Realm_83 (Nat.le_of_ble_eq_true rfl) (Nat.le_of_ble_eq_true rfl) (t_Tc_within (by omega) ep3) ?_
      refine E_zeq (tgt := 60) d_Realm_canDo_53 (by decide) (fun c => ?_) (fun c => ?_)
      · rw [if_pos c] at hq
        refine E_ic (v := 0) d_Realm_canDo_60 (by decide) ?_
        exact E_rZ d_Realm_canDo_61 rfl hq
      · rw [if_neg c] at hq
        refine E_ic (v := 1) d_Realm_canDo_56 (by decide) ?_
        refine E_goto (tgt := 61) d_Realm_canDo_57 (by decide) ?_
        exact E_rZ d_Realm_canDo_61 rfl hq
  · rw [if_neg c0] at hq
    by_cases c1 : x1 = 1
    · rw [if_pos c1] at hq
      refine E_table (tgt := 62) d_Realm_canDo_1 (by rw [c1]; decide) (fun _ _ => ⟨61, by rw [c1]; decide, by decide⟩) ?_
      refine E_aln 0 d_Realm_canDo_62 rfl rfl ?_
      refine E_iln 2 d_Realm_canDo_63 rfl rfl ?_
      obtain ⟨q5, eq5, hq⟩ := bd hq
      obtain ⟨p4, ep4, hq⟩ := bd hq
      refine E_cV1I d_Realm_canDo_64 ck_Realm_90 rfl rfl eq5 (Nat.le_of_ble_eq_true rfl) (Nat.le_of_ble_eq_true rfl) (t_Realm_isInside (by omega) ep4) ?_
      exact E_rZ d_Realm_canDo_67 rfl hq
    · rw [if_neg c1] at hq
      by_cases c2 : x1 = 2
      · rw [if_pos c2] at hq
        refine E_table (tgt := 68) d_Realm_canDo_1 (by rw [c2]; decide) (fun _ _ => ⟨67, by rw [c2]; decide, by decide⟩) ?_
        refine E_aln 0 d_Realm_canDo_68 rfl rfl ?_
        refine E_iln 2 d_Realm_canDo_69 rfl rfl ?_
        obtain ⟨q7, eq7, hq⟩ := bd hq
        obtain ⟨p6, ep6, hq⟩ := bd hq
        refine E_cV1I d_Realm_canDo_70 ck_Realm_90 rfl rfl eq7 (Nat.le_of_ble_eq_true rfl) (Nat.le_of_ble_eq_true rfl) (t_Realm_isInside (by omega) ep6) ?_
        exact E_rZ d_Realm_canDo_73 rfl hq
      · rw [if_neg c2] at hq
        by_cases c3 : x1 = 3
        · rw [if_pos c3] at hq
          refine E_table (tgt := 74) d_Realm_canDo_1 (by rw [c3]; decide) (fun _ _ => ⟨73, by rw [c3]; decide, by decide⟩) ?_
          refine E_aln 0 d_Realm_canDo_74 rfl rfl ?_
          refine E_iln 2 d_Realm_canDo_75 rfl rfl ?_
          obtain ⟨q9, eq9, hq⟩ := bd hq
          obtain ⟨p8, ep8, hq⟩ := bd hq
          refine E_cV1I d_Realm_canDo_76 ck_Realm_87 rfl rfl eq9 (Nat.le_of_ble_eq_true rfl) (Nat.le_of_ble_eq_true rfl) (t_Realm_isOfficer (by omega) ep8) ?_
          refine E_zeq (tgt := 94) d_Realm_canDo_79 (by decide) (fun c => ?_) (fun c => ?_)
          · rw [if_pos c] at hq
            refine E_ic (v := 0) d_Realm_canDo_94 (by decide) ?_
            exact E_rZ d_Realm_canDo_95 rfl hq
          · rw [if_neg c] at hq
            refine E_iln 3 d_Realm_canDo_82 rfl rfl ?_
            refine E_ic (v := 3) d_Realm_canDo_83 (by decide) ?_
            obtain ⟨p10, ep10, hq⟩ := bd hq
            refine E_cS2I d_Realm_canDo_84 ck_Realm_83 (Nat.le_of_ble_eq_true rfl) (Nat.le_of_ble_eq_true rfl) (t_Tc_within (by omega) ep10) ?_
            refine E_zeq (tgt := 94) d_Realm_canDo_87 (by decide) (fun c => ?_) (fun c => ?_)
            · rw [if_pos c] at hq
              refine E_ic (v := 0) d_Realm_canDo_94 (by decide) ?_
              exact E_rZ d_Realm_canDo_95 rfl hq
            · rw [if_neg c] at hq
              refine E_ic (v := 1) d_Realm_canDo_90 (by decide) ?_
              refine E_goto (tgt := 95) d_Realm_canDo_91 (by decide) ?_
              exact E_rZ d_Realm_canDo_95 rfl hq
        · rw [if_neg c3] at hq
          by_cases c4 : x1 = 4
          · rw [if_pos c4] at hq
            refine E_table (tgt := 96) d_Realm_canDo_1 (by rw [c4]; decide) (fun _ _ => ⟨95, by rw [c4]; decide, by decide⟩) ?_
            refine E_iln 2 d_Realm_canDo_96 rfl rfl ?_
            refine E_ic (v := 3) d_Realm_canDo_97 (by decide) ?_
            obtain ⟨p11, ep11, hq⟩ := bd hq
            refine E_cS2I d_Realm_canDo_98 ck_Realm_83 (Nat.le_of_ble_eq_true rfl) (Nat.le_of_ble_eq_true rfl) (t_Tc_within (by omega) ep11) ?_
            refine E_zeq (tgt := 116) d_Realm_canDo_101 (by decide) (fun c => ?_) (fun c => ?_)
            · rw [if_pos c] at hq
              refine E_ic (v := 0) d_Realm_canDo_116 (by decide) ?_
              exact E_rZ d_Realm_canDo_117 rfl hq
            · rw [if_neg c] at hq
              refine E_aln 0 d_Realm_canDo_104 rfl rfl ?_
              refine E_iln 2 d_Realm_canDo_105 rfl rfl ?_
              obtain ⟨q13, eq13, hq⟩ := bd hq
              obtain ⟨p12, ep12, hq⟩ := bd hq
              refine E_cV1I d_Realm_canDo_106 ck_Realm_93 rfl rfl eq13 (Nat.le_of_ble_eq_true rfl) (Nat.le_of_ble_eq_true rfl) (t_Realm_isOpen (by omega) ep12) ?_
              refine E_zne (tgt := 116) d_Realm_canDo_109 (by decide) (fun c => ?_) (fun c => ?_)
              · rw [if_neg c] at hq
                refine E_ic (v := 0) d_Realm_canDo_116 (by decide) ?_
                exact E_rZ d_Realm_canDo_117 rfl hq
              · rw [if_pos c] at hq
                refine E_ic (v := 1) d_Realm_canDo_112 (by decide) ?_
                refine E_goto (tgt := 117) d_Realm_canDo_113 (by decide) ?_
                exact E_rZ d_Realm_canDo_117 rfl hq
          · rw [if_neg c4] at hq
            by_cases c5 : x1 = 5
            · rw [if_pos c5] at hq
              refine E_table (tgt := 118) d_Realm_canDo_1 (by rw [c5]; decide) (fun _ _ => ⟨117, by rw [c5]; decide, by decide⟩) ?_
              refine E_iln 2 d_Realm_canDo_118 rfl rfl ?_
              refine E_ic (v := 3) d_Realm_canDo_119 (by decide) ?_
              obtain ⟨p14, ep14, hq⟩ := bd hq
              refine E_cS2I d_Realm_canDo_120 ck_Realm_83 (Nat.le_of_ble_eq_true rfl) (Nat.le_of_ble_eq_true rfl) (t_Tc_within (by omega) ep14) ?_
              refine E_zeq (tgt := 138) d_Realm_canDo_123 (by decide) (fun c => ?_) (fun c => ?_)
              · rw [if_pos c] at hq
                refine E_ic (v := 0) d_Realm_canDo_138 (by decide) ?_
                exact E_rZ d_Realm_canDo_139 rfl hq
              · rw [if_neg c] at hq
                refine E_aln 0 d_Realm_canDo_126 rfl rfl ?_
                refine E_iln 2 d_Realm_canDo_127 rfl rfl ?_
                obtain ⟨q16, eq16, hq⟩ := bd hq
                obtain ⟨p15, ep15, hq⟩ := bd hq
                refine E_cV1I d_Realm_canDo_128 ck_Realm_93 rfl rfl eq16 (Nat.le_of_ble_eq_true rfl) (Nat.le_of_ble_eq_true rfl) (t_Realm_isOpen (by omega) ep15) ?_
                refine E_zeq (tgt := 138) d_Realm_canDo_131 (by decide) (fun c => ?_) (fun c => ?_)
                · rw [if_pos c] at hq
                  refine E_ic (v := 0) d_Realm_canDo_138 (by decide) ?_
                  exact E_rZ d_Realm_canDo_139 rfl hq
                · rw [if_neg c] at hq
                  refine E_ic (v := 1) d_Realm_canDo_134 (by decide) ?_
                  refine E_goto (tgt := 139) d_Realm_canDo_135 (by decide) ?_
                  exact E_rZ d_Realm_canDo_139 rfl hq
            · rw [if_neg c5] at hq
              refine E_table (tgt := 140) d_Realm_canDo_1 (fun _ => by decide) (fun z1 z2 => (tab_out (l := [0, 1, 2, 3, 4, 5]) ⟨(fun z => c0 (z.trans (by decide))), (fun z => c1 (z.trans (by decide))), (fun z => c2 (z.trans (by decide))), (fun z => c3 (z.trans (by decide))), (fun z => c4 (z.trans (by decide))), (fun z => c5 (z.trans (by decide))), trivial⟩ (by decide) z1 z2).elim) ?_
              refine E_ic (v := 0) d_Realm_canDo_140 (by decide) ?_
              exact E_rZ d_Realm_canDo_141 rfl hq
def f_Realm_copyFrom (a0 : Nat) (a1 : Nat) (h : PH) : Option (PH) :=
  (ldI h 5 a1 0).bind fun v1 =>
  (stI h 5 a0 0 v1).bind fun h2 =>
  (ldI h2 5 a1 1).bind fun v3 =>
  (stI h2 5 a0 1 v3).bind fun h4 =>
  (ldR h4 5 a1 2).bind fun v5 =>
  (ldR h4 5 a0 2).bind fun v6 =>
  (cpA h4 v5 0 v6 0 12).bind fun h7 =>
  (ldR h7 5 a1 3).bind fun v8 =>
  (ldR h7 5 a0 3).bind fun v9 =>
  (cpA h7 v8 0 v9 0 12).bind fun h10 =>
  (ldR h10 5 a1 4).bind fun v11 =>
  (ldR h10 5 a0 4).bind fun v12 =>
  (cpA h10 v11 0 v12 0 12).bind fun h13 =>
  (ldR h13 5 a1 5).bind fun v14 =>
  (ldR h13 5 a0 5).bind fun v15 =>
  (cpA h13 v14 0 v15 0 12).bind fun h16 =>
  (ldR h16 5 a1 6).bind fun v17 =>
  (ldR h16 5 a0 6).bind fun v18 =>
  (cpA h16 v17 0 v18 0 12).bind fun h19 =>
  (ldI h19 5 a1 7).bind fun v20 =>
  (stI h19 5 a0 7 v20).bind fun h21 =>
  (ldI h21 5 a1 8).bind fun v22 =>
  (stI h21 5 a0 8 v22).bind fun h23 =>
  (ldI h23 5 a1 9).bind fun v24 =>
  (stI h23 5 a0 9 v24).bind fun h25 =>
  (ldR h25 5 a1 10).bind fun v26 =>
  (ldR h25 5 a0 10).bind fun v27 =>
  (cpA h25 v26 0 v27 0 6).bind fun h28 =>
  (ldR h28 5 a1 11).bind fun v29 =>
  (ldR h28 5 a0 11).bind fun v30 =>
  (cpA h28 v29 0 v30 0 6).bind fun h31 =>
  (ldR h31 5 a1 12).bind fun v32 =>
  (ldR h31 5 a0 12).bind fun v33 =>
  (cpA h31 v32 0 v33 0 6).bind fun h34 =>
  (ldR h34 5 a1 13).bind fun v35 =>
  (ldR h34 5 a0 13).bind fun v36 =>
  (cpA h34 v35 0 v36 0 6).bind fun h37 =>
  (ldI h37 5 a1 14).bind fun v38 =>
  (stI h37 5 a0 14 v38).bind fun h39 =>
  (ldI h39 5 a1 15).bind fun v40 =>
  (stI h39 5 a0 15 v40).bind fun h41 =>
  (ldI h41 5 a1 16).bind fun v42 =>
  (stI h41 5 a0 16 v42).bind fun h43 =>
  (ldI h43 5 a1 17).bind fun v44 =>
  (stI h43 5 a0 17 v44).bind fun h45 =>
  (ldI h45 5 a1 18).bind fun v46 =>
  (stI h45 5 a0 18 v46).bind fun h47 =>
  (ldI h47 5 a1 19).bind fun v48 =>
  (stI h47 5 a0 19 v48).bind fun h49 =>
  some h49
theorem t_Realm_copyFrom {d : Nat} (hd : 1 ≤ d) {a0 : Nat} {a1 : Nat} {h : PH} {r : PH} (hq : f_Realm_copyFrom a0 a1 h = some r) : E d 0 0 m_Realm_copyFrom 0 [(0, .ref a0), (1, .ref a1)] [] h (PV r) := by
  unfold f_Realm_copyFrom at hq
  obtain ⟨d, rfl⟩ : ∃ e, d = e + 1 := ⟨d - 1, by omega⟩
  refine E_aln 0 d_Realm_copyFrom_0 rfl rfl ?_
  refine E_aln 1 d_Realm_copyFrom_1 rfl rfl ?_
  obtain ⟨v1, ev1, hq⟩ := bd hq
  refine E_gI d_Realm_copyFrom_2 lk_Realm_9 rfl ev1 ?_
  obtain ⟨h2, eh2, hq⟩ := bd hq
  refine E_pI d_Realm_copyFrom_5 lp_Realm_m_9 rfl eh2 ?_
  refine E_aln 0 d_Realm_copyFrom_8 rfl rfl ?_
  refine E_aln 1 d_Realm_copyFrom_9 rfl rfl ?_
  obtain ⟨v3, ev3, hq⟩ := bd hq
  refine E_gI d_Realm_copyFrom_10 lk_Realm_15 rfl ev3 ?_
  obtain ⟨h4, eh4, hq⟩ := bd hq
  refine E_pI d_Realm_copyFrom_13 lp_Realm_m_15 rfl eh4 ?_
  refine E_aln 1 d_Realm_copyFrom_16 rfl rfl ?_
  obtain ⟨v5, ev5, hq⟩ := bd hq
  refine E_gR d_Realm_copyFrom_17 lk_Realm_18 rfl ev5 ?_
  refine E_ic (v := 0) d_Realm_copyFrom_20 (by decide) ?_
  refine E_aln 0 d_Realm_copyFrom_21 rfl rfl ?_
  obtain ⟨v6, ev6, hq⟩ := bd hq
  refine E_gR d_Realm_copyFrom_22 lk_Realm_18 rfl ev6 ?_
  refine E_ic (v := 0) d_Realm_copyFrom_25 (by decide) ?_
  refine E_bi (v := 12) d_Realm_copyFrom_26 (by decide) ?_
  obtain ⟨h7, eh7, hq⟩ := bd hq
  refine E_cp d_Realm_copyFrom_28 kj_Realm_73 (Nat.le_of_ble_eq_true rfl) eh7 ?_
  refine E_aln 1 d_Realm_copyFrom_31 rfl rfl ?_
  obtain ⟨v8, ev8, hq⟩ := bd hq
  refine E_gR d_Realm_copyFrom_32 lk_Realm_22 rfl ev8 ?_
  refine E_ic (v := 0) d_Realm_copyFrom_35 (by decide) ?_
  refine E_aln 0 d_Realm_copyFrom_36 rfl rfl ?_
  obtain ⟨v9, ev9, hq⟩ := bd hq
  refine E_gR d_Realm_copyFrom_37 lk_Realm_22 rfl ev9 ?_
  refine E_ic (v := 0) d_Realm_copyFrom_40 (by decide) ?_
  refine E_bi (v := 12) d_Realm_copyFrom_41 (by decide) ?_
  obtain ⟨h10, eh10, hq⟩ := bd hq
  refine E_cp d_Realm_copyFrom_43 kj_Realm_73 (Nat.le_of_ble_eq_true rfl) eh10 ?_
  refine E_aln 1 d_Realm_copyFrom_46 rfl rfl ?_
  obtain ⟨v11, ev11, hq⟩ := bd hq
  refine E_gR d_Realm_copyFrom_47 lk_Realm_25 rfl ev11 ?_
  refine E_ic (v := 0) d_Realm_copyFrom_50 (by decide) ?_
  refine E_aln 0 d_Realm_copyFrom_51 rfl rfl ?_
  obtain ⟨v12, ev12, hq⟩ := bd hq
  refine E_gR d_Realm_copyFrom_52 lk_Realm_25 rfl ev12 ?_
  refine E_ic (v := 0) d_Realm_copyFrom_55 (by decide) ?_
  refine E_bi (v := 12) d_Realm_copyFrom_56 (by decide) ?_
  obtain ⟨h13, eh13, hq⟩ := bd hq
  refine E_cp d_Realm_copyFrom_58 kj_Realm_73 (Nat.le_of_ble_eq_true rfl) eh13 ?_
  refine E_aln 1 d_Realm_copyFrom_61 rfl rfl ?_
  obtain ⟨v14, ev14, hq⟩ := bd hq
  refine E_gR d_Realm_copyFrom_62 lk_Realm_28 rfl ev14 ?_
  refine E_ic (v := 0) d_Realm_copyFrom_65 (by decide) ?_
  refine E_aln 0 d_Realm_copyFrom_66 rfl rfl ?_
  obtain ⟨v15, ev15, hq⟩ := bd hq
  refine E_gR d_Realm_copyFrom_67 lk_Realm_28 rfl ev15 ?_
  refine E_ic (v := 0) d_Realm_copyFrom_70 (by decide) ?_
  refine E_bi (v := 12) d_Realm_copyFrom_71 (by decide) ?_
  obtain ⟨h16, eh16, hq⟩ := bd hq
  refine E_cp d_Realm_copyFrom_73 kj_Realm_73 (Nat.le_of_ble_eq_true rfl) eh16 ?_
  refine E_aln 1 d_Realm_copyFrom_76 rfl rfl ?_
  obtain ⟨v17, ev17, hq⟩ := bd hq
  refine E_gR d_Realm_copyFrom_77 lk_Realm_31 rfl ev17 ?_
  refine E_ic (v := 0) d_Realm_copyFrom_80 (by decide) ?_
  refine E_aln 0 d_Realm_copyFrom_81 rfl rfl ?_
  obtain ⟨v18, ev18, hq⟩ := bd hq
  refine E_gR d_Realm_copyFrom_82 lk_Realm_31 rfl ev18 ?_
  refine E_ic (v := 0) d_Realm_copyFrom_85 (by decide) ?_
  refine E_bi (v := 12) d_Realm_copyFrom_86 (by decide) ?_
  obtain ⟨h19, eh19, hq⟩ := bd hq
  refine E_cp d_Realm_copyFrom_88 kj_Realm_73 (Nat.le_of_ble_eq_true rfl) eh19 ?_
  refine E_aln 0 d_Realm_copyFrom_91 rfl rfl ?_
  refine E_aln 1 d_Realm_copyFrom_92 rfl rfl ?_
  obtain ⟨v20, ev20, hq⟩ := bd hq
  refine E_gI d_Realm_copyFrom_93 lk_Realm_34 rfl ev20 ?_
  obtain ⟨h21, eh21, hq⟩ := bd hq
  refine E_pI d_Realm_copyFrom_96 lp_Realm_m_34 rfl eh21 ?_
  refine E_aln 0 d_Realm_copyFrom_99 rfl rfl ?_
  refine E_aln 1 d_Realm_copyFrom_100 rfl rfl ?_
  obtain ⟨v22, ev22, hq⟩ := bd hq
  refine E_gI d_Realm_copyFrom_101 lk_Realm_37 rfl ev22 ?_
  obtain ⟨h23, eh23, hq⟩ := bd hq
  refine E_pI d_Realm_copyFrom_104 lp_Realm_m_37 rfl eh23 ?_
  refine E_aln 0 d_Realm_copyFrom_107 rfl rfl ?_
  refine E_aln 1 d_Realm_copyFrom_108 rfl rfl ?_
  obtain ⟨v24, ev24, hq⟩ := bd hq
  refine E_gI d_Realm_copyFrom_109 lk_Realm_40 rfl ev24 ?_
  obtain ⟨h25, eh25, hq⟩ := bd hq
  refine E_pI d_Realm_copyFrom_112 lp_Realm_m_40 rfl eh25 ?_
  refine E_aln 1 d_Realm_copyFrom_115 rfl rfl ?_
  obtain ⟨v26, ev26, hq⟩ := bd hq
  refine E_gR d_Realm_copyFrom_116 lk_Realm_43 rfl ev26 ?_
  refine E_ic (v := 0) d_Realm_copyFrom_119 (by decide) ?_
  refine E_aln 0 d_Realm_copyFrom_120 rfl rfl ?_
  obtain ⟨v27, ev27, hq⟩ := bd hq
  refine E_gR d_Realm_copyFrom_121 lk_Realm_43 rfl ev27 ?_
  refine E_ic (v := 0) d_Realm_copyFrom_124 (by decide) ?_
  refine E_bi (v := 6) d_Realm_copyFrom_125 (by decide) ?_
  obtain ⟨h28, eh28, hq⟩ := bd hq
  refine E_cp d_Realm_copyFrom_127 kj_Realm_73 (Nat.le_of_ble_eq_true rfl) eh28 ?_
  refine E_aln 1 d_Realm_copyFrom_130 rfl rfl ?_
  obtain ⟨v29, ev29, hq⟩ := bd hq
  refine E_gR d_Realm_copyFrom_131 lk_Realm_46 rfl ev29 ?_
  refine E_ic (v := 0) d_Realm_copyFrom_134 (by decide) ?_
  refine E_aln 0 d_Realm_copyFrom_135 rfl rfl ?_
  obtain ⟨v30, ev30, hq⟩ := bd hq
  refine E_gR d_Realm_copyFrom_136 lk_Realm_46 rfl ev30 ?_
  refine E_ic (v := 0) d_Realm_copyFrom_139 (by decide) ?_
  refine E_bi (v := 6) d_Realm_copyFrom_140 (by decide) ?_
  obtain ⟨h31, eh31, hq⟩ := bd hq
  refine E_cp d_Realm_copyFrom_142 kj_Realm_73 (Nat.le_of_ble_eq_true rfl) eh31 ?_
  refine E_aln 1 d_Realm_copyFrom_145 rfl rfl ?_
  obtain ⟨v32, ev32, hq⟩ := bd hq
  refine E_gR d_Realm_copyFrom_146 lk_Realm_49 rfl ev32 ?_
  refine E_ic (v := 0) d_Realm_copyFrom_149 (by decide) ?_
  refine E_aln 0 d_Realm_copyFrom_150 rfl rfl ?_
  obtain ⟨v33, ev33, hq⟩ := bd hq
  refine E_gR d_Realm_copyFrom_151 lk_Realm_49 rfl ev33 ?_
  refine E_ic (v := 0) d_Realm_copyFrom_154 (by decide) ?_
  refine E_bi (v := 6) d_Realm_copyFrom_155 (by decide) ?_
  obtain ⟨h34, eh34, hq⟩ := bd hq
  refine E_cp d_Realm_copyFrom_157 kj_Realm_73 (Nat.le_of_ble_eq_true rfl) eh34 ?_
  refine E_aln 1 d_Realm_copyFrom_160 rfl rfl ?_
  obtain ⟨v35, ev35, hq⟩ := bd hq
  refine E_gR d_Realm_copyFrom_161 lk_Realm_52 rfl ev35 ?_
  refine E_ic (v := 0) d_Realm_copyFrom_164 (by decide) ?_
  refine E_aln 0 d_Realm_copyFrom_165 rfl rfl ?_
  obtain ⟨v36, ev36, hq⟩ := bd hq
  refine E_gR d_Realm_copyFrom_166 lk_Realm_52 rfl ev36 ?_
  refine E_ic (v := 0) d_Realm_copyFrom_169 (by decide) ?_
  refine E_bi (v := 6) d_Realm_copyFrom_170 (by decide) ?_
  obtain ⟨h37, eh37, hq⟩ := bd hq
  refine E_cp d_Realm_copyFrom_172 kj_Realm_73 (Nat.le_of_ble_eq_true rfl) eh37 ?_
  refine E_aln 0 d_Realm_copyFrom_175 rfl rfl ?_
  refine E_aln 1 d_Realm_copyFrom_176 rfl rfl ?_
  obtain ⟨v38, ev38, hq⟩ := bd hq
  refine E_gI d_Realm_copyFrom_177 lk_Realm_55 rfl ev38 ?_
  obtain ⟨h39, eh39, hq⟩ := bd hq
  refine E_pI d_Realm_copyFrom_180 lp_Realm_m_55 rfl eh39 ?_
  refine E_aln 0 d_Realm_copyFrom_183 rfl rfl ?_
  refine E_aln 1 d_Realm_copyFrom_184 rfl rfl ?_
  obtain ⟨v40, ev40, hq⟩ := bd hq
  refine E_gI d_Realm_copyFrom_185 lk_Realm_58 rfl ev40 ?_
  obtain ⟨h41, eh41, hq⟩ := bd hq
  refine E_pI d_Realm_copyFrom_188 lp_Realm_m_58 rfl eh41 ?_
  refine E_aln 0 d_Realm_copyFrom_191 rfl rfl ?_
  refine E_aln 1 d_Realm_copyFrom_192 rfl rfl ?_
  obtain ⟨v42, ev42, hq⟩ := bd hq
  refine E_gI d_Realm_copyFrom_193 lk_Realm_61 rfl ev42 ?_
  obtain ⟨h43, eh43, hq⟩ := bd hq
  refine E_pI d_Realm_copyFrom_196 lp_Realm_m_61 rfl eh43 ?_
  refine E_aln 0 d_Realm_copyFrom_199 rfl rfl ?_
  refine E_aln 1 d_Realm_copyFrom_200 rfl rfl ?_
  obtain ⟨v44, ev44, hq⟩ := bd hq
  refine E_gI d_Realm_copyFrom_201 lk_Realm_64 rfl ev44 ?_
  obtain ⟨h45, eh45, hq⟩ := bd hq
  refine E_pI d_Realm_copyFrom_204 lp_Realm_m_64 rfl eh45 ?_
  refine E_aln 0 d_Realm_copyFrom_207 rfl rfl ?_
  refine E_aln 1 d_Realm_copyFrom_208 rfl rfl ?_
  obtain ⟨v46, ev46, hq⟩ := bd hq
  refine E_gI d_Realm_copyFrom_209 lk_Realm_67 rfl ev46 ?_
  obtain ⟨h47, eh47, hq⟩ := bd hq
  refine E_pI d_Realm_copyFrom_212 lp_Realm_m_67 rfl eh47 ?_
  refine E_aln 0 d_Realm_copyFrom_215 rfl rfl ?_
  refine E_aln 1 d_Realm_copyFrom_216 rfl rfl ?_
  obtain ⟨v48, ev48, hq⟩ := bd hq
  refine E_gI d_Realm_copyFrom_217 lk_Realm_70 rfl ev48 ?_
  obtain ⟨h49, eh49, hq⟩ := bd hq
  refine E_pI d_Realm_copyFrom_220 lp_Realm_m_70 rfl eh49 ?_
  exact E_rV d_Realm_copyFrom_223 rfl hq
def f_Log_keep_19 (a0 : Nat) (h : PH) : Option (PH) :=
  (ldI h 3 a0 1).bind fun v1 =>
  (rmI (v1 + 1) 6).bind fun v2 =>
  (stI h 3 a0 1 v2).bind fun h3 =>
  (ldI h3 3 a0 2).bind fun v4 =>
  (stI h3 3 a0 2 (jmin 6 (v4 + 1))).bind fun h5 =>
  some h5
theorem t_Log_keep_19 {d : Nat} (hd : 2 ≤ d) {a0 : Nat} {h : PH} {r : PH} (hq : f_Log_keep_19 a0 h = some r) : E d 0 0 m_Log_keep 19 [(0, .ref a0)] [] h (PV r) := by
  unfold f_Log_keep_19 at hq
  obtain ⟨d, rfl⟩ : ∃ e, d = e + 1 := ⟨d - 1, by omega⟩
  refine E_aln 0 d_Log_keep_19 rfl rfl ?_
  refine E_aln 0 d_Log_keep_20 rfl rfl ?_
  obtain ⟨v1, ev1, hq⟩ := bd hq
  refine E_gI d_Log_keep_21 lk_Log_17 rfl ev1 ?_
  refine E_ic (v := 1) d_Log_keep_24 (by decide) ?_
  refine E_iadd d_Log_keep_25 ?_
  refine E_bi (v := 6) d_Log_keep_26 (by decide) ?_
  obtain ⟨v2, ev2, hq⟩ := bd hq
  refine E_rm d_Log_keep_28 ev2 ?_
  obtain ⟨h3, eh3, hq⟩ := bd hq
  refine E_pI d_Log_keep_29 lp_Log_m_17 rfl eh3 ?_
  refine E_aln 0 d_Log_keep_32 rfl rfl ?_
  refine E_bi (v := 6) d_Log_keep_33 (by decide) ?_
  refine E_aln 0 d_Log_keep_35 rfl rfl ?_
  obtain ⟨v4, ev4, hq⟩ := bd hq
  refine E_gI d_Log_keep_36 lk_Log_21 rfl ev4 ?_
  refine E_ic (v := 1) d_Log_keep_39 (by decide) ?_
  refine E_iadd d_Log_keep_40 ?_
  refine E_min d_Log_keep_41 kj_Log_29 (Nat.le_of_ble_eq_true rfl) ?_
  obtain ⟨h5, eh5, hq⟩ := bd hq
  refine E_pI d_Log_keep_44 lp_Log_m_21 rfl eh5 ?_
  exact E_rV d_Log_keep_47 rfl hq
def f_Log_keep (a0 : Nat) (a1 : Nat) (h : PH) : Option (PH) :=
  (ldR h 3 a0 0).bind fun v1 =>
  (ldI h 3 a0 1).bind fun v2 =>
  (rdQ h v1 v2).bind fun v3 =>
  (isO h 5 v3).bind fun _ =>
  (f_Realm_copyFrom v3 a1 h).bind fun h4 =>
  f_Log_keep_19 a0 h4
theorem t_Log_keep {d : Nat} (hd : 2 ≤ d) {a0 : Nat} {a1 : Nat} {h : PH} {r : PH} (hq : f_Log_keep a0 a1 h = some r) : E d 0 0 m_Log_keep 0 [(0, .ref a0), (1, .ref a1)] [] h (PV r) := by
  unfold f_Log_keep at hq
  obtain ⟨d, rfl⟩ : ∃ e, d = e + 1 := ⟨d - 1, by omega⟩
  refine E_aln 0 d_Log_keep_0 rfl rfl ?_
  obtain ⟨v1, ev1, hq⟩ := bd hq
  refine E_gR d_Log_keep_1 lk_Log_11 rfl ev1 ?_
  refine E_aln 0 d_Log_keep_4 rfl rfl ?_
  obtain ⟨v2, ev2, hq⟩ := bd hq
  refine E_gI d_Log_keep_5 lk_Log_17 rfl ev2 ?_
  obtain ⟨v3, ev3, hq⟩ := bd hq
  refine E_rq d_Log_keep_8 ev3 ?_
  refine E_asn (ls' := [(2, .ref v3), (0, .ref a0), (1, .ref a1)]) d_Log_keep_9 (Nat.le_of_ble_eq_true rfl) rfl ?_
  refine E_aln 0 d_Log_keep_10 rfl rfl ?_
  refine E_nullR 19 d_Log_keep_11 (by decide) ?_
  refine E_aln 0 d_Log_keep_14 rfl rfl ?_
  refine E_aln 2 d_Log_keep_15 rfl rfl ?_
  obtain ⟨q5, eq5, hq⟩ := bd hq
  obtain ⟨h4, eh4, hq⟩ := bd hq
  refine E_cV1V d_Log_keep_16 ck_Log_25 rfl rfl eq5 (Nat.le_of_ble_eq_true rfl) (Nat.le_of_ble_eq_true rfl) (t_Realm_copyFrom (by omega) eh4) ?_
  exact E_sub (ks := [1]) rfl <| t_Log_keep_19 (by omega) hq
