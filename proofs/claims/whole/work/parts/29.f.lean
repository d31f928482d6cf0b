def f_Mo_readsText (a0 : Nat) (x1 : Int32) (h : PH) : Option (Int32 × PH) :=
  (stI h 9 a0 27 0).bind fun h1 =>
  (isO h1 9 a0).bind fun _ =>
  (f_Mo_reads a0  h1).bind fun h2 =>
  if x1 = 1 then
    (isO h2 9 a0).bind fun _ =>
    (f_Mo_readKin a0  h2).bind fun p10 =>
    some (p10.1, p10.2)
  else
    if x1 = 2 then
      (isO h2 9 a0).bind fun _ =>
      (f_Mo_readShifts a0  h2).bind fun p8 =>
      some (p8.1, p8.2)
    else
      if x1 = 3 then
        (isO h2 9 a0).bind fun _ =>
        (f_Mo_readRoads a0  h2).bind fun p6 =>
        some (p6.1, p6.2)
      else
        (isO h2 9 a0).bind fun _ =>
        (f_Mo_readLaw a0  h2).bind fun p4 =>
        some (p4.1, p4.2)
theorem t_Mo_readsText {d : Nat} (hd : 9 ≤ d) {a0 : Nat} {x1 : Int32} {h : PH} {r : Int32 × PH} (hq : f_Mo_readsText a0 x1 h = some r) : E d 0 0 m_Mo_readsText 0 [(0, .ref a0), (1, .int x1)] [] h (PI r) := by
  unfold f_Mo_readsText at hq
  obtain ⟨d, rfl⟩ : ∃ e, d = e + 1 := ⟨d - 1, by omega⟩
  refine E_aln 0 d_Mo_readsText_0 rfl rfl ?_
  refine E_ic (v := 0) d_Mo_readsText_1 (by decide) ?_
  obtain ⟨h1, eh1, hq⟩ := bd hq
  refine E_pI d_Mo_readsText_2 lp_Mo_m_275 rfl eh1 ?_
  refine E_aln 0 d_Mo_readsText_5 rfl rfl ?_
  obtain ⟨q3, eq3, hq⟩ := bd hq
  obtain ⟨h2, eh2, hq⟩ := bd hq
  refine E_cV0V d_Mo_readsText_6 ck_Mo_234 rfl rfl eq3 (Nat.le_of_ble_eq_true rfl) (Nat.le_of_ble_eq_true rfl) (t_Mo_reads (by omega) eh2) ?_
  refine E_iln 1 d_Mo_readsText_9 rfl rfl ?_
  refine E_ic (v := 1) d_Mo_readsText_10 (by decide) ?_
  refine E_jne (tgt := 19) d_Mo_readsText_11 (by decide) (fun c => ?_) (fun c => ?_)
  · rw [if_neg c] at hq
    refine E_iln 1 d_Mo_readsText_19 rfl rfl ?_
    refine E_ic (v := 2) d_Mo_readsText_20 (by decide) ?_
    refine E_jne (tgt := 29) d_Mo_readsText_21 (by decide) (fun c => ?_) (fun c => ?_)
    · rw [if_neg c] at hq
      refine E_iln 1 d_Mo_readsText_29 rfl rfl ?_
      refine E_ic (v := 3) d_Mo_readsText_30 (by decide) ?_
      refine E_jne (tgt := 41) d_Mo_readsText_31 (by decide) (fun c => ?_) (fun c => ?_)
      · rw [if_neg c] at hq
        refine E_aln 0 d_Mo_readsText_41 rfl rfl ?_
        obtain ⟨q5, eq5, hq⟩ := bd hq
        obtain ⟨p4, ep4, hq⟩ := bd hq
        refine E_cV0I d_Mo_readsText_42 ck_Mo_309 rfl rfl eq5 (Nat.le_of_ble_eq_true rfl) (Nat.le_of_ble_eq_true rfl) (t_Mo_readLaw (by omega) ep4) ?_
        exact E_rI d_Mo_readsText_45 rfl hq
      · rw [if_pos c] at hq
        refine E_aln 0 d_Mo_readsText_34 rfl rfl ?_
        obtain ⟨q7, eq7, hq⟩ := bd hq
        obtain ⟨p6, ep6, hq⟩ := bd hq
        refine E_cV0I d_Mo_readsText_35 ck_Mo_306 rfl rfl eq7 (Nat.le_of_ble_eq_true rfl) (Nat.le_of_ble_eq_true rfl) (t_Mo_readRoads (by omega) ep6) ?_
        refine E_goto (tgt := 45) d_Mo_readsText_38 (by decide) ?_
        exact E_rI d_Mo_readsText_45 rfl hq
    · rw [if_pos c] at hq
      refine E_aln 0 d_Mo_readsText_24 rfl rfl ?_
      obtain ⟨q9, eq9, hq⟩ := bd hq
      obtain ⟨p8, ep8, hq⟩ := bd hq
      refine E_cV0I d_Mo_readsText_25 ck_Mo_303 rfl rfl eq9 (Nat.le_of_ble_eq_true rfl) (Nat.le_of_ble_eq_true rfl) (t_Mo_readShifts (by omega) ep8) ?_
      exact E_rI d_Mo_readsText_28 rfl hq
  · rw [if_pos c] at hq
    refine E_aln 0 d_Mo_readsText_14 rfl rfl ?_
    obtain ⟨q11, eq11, hq⟩ := bd hq
    obtain ⟨p10, ep10, hq⟩ := bd hq
    refine E_cV0I d_Mo_readsText_15 ck_Mo_300 rfl rfl eq11 (Nat.le_of_ble_eq_true rfl) (Nat.le_of_ble_eq_true rfl) (t_Mo_readKin (by omega) ep10) ?_
    exact E_rI d_Mo_readsText_18 rfl hq
def f_Mo_takesLaw_107 : Nat → Nat → Int32 → Int32 → PH → Option (PH)
  | 0, _, _, _, _ => none
  | n + 1, a0, x1, x2, h =>
    (ldI h 9 a0 28).bind fun v1 =>
    if v1 ≤ x2 then
      (ldR h 9 a0 20).bind fun v2 =>
      (ldI h 9 a0 27).bind fun v3 =>
      (wrA h v2 v3 x1).bind fun h4 =>
      some h4
    else
      (ldR h 9 a0 25).bind fun v5 =>
      (ldI h 9 a0 27).bind fun v6 =>
      (ldR h 9 a0 25).bind fun v7 =>
      (rdA h v7 (800 + x2)).bind fun v8 =>
      (wrA h v5 ((400 * v6) + x2) v8).bind fun h9 =>
      (ldR h9 9 a0 26).bind fun v10 =>
      (ldI h9 9 a0 27).bind fun v11 =>
      (ldR h9 9 a0 26).bind fun v12 =>
      (rdA h9 v12 (800 + x2)).bind fun v13 =>
      (wrA h9 v10 ((400 * v11) + x2) v13).bind fun h14 =>
      f_Mo_takesLaw_107 n a0 x1 (x2 + 1) h14
theorem t_Mo_takesLaw_107 {d : Nat} (hd : 0 ≤ d) : ∀ (n : Nat) (a0 : Nat) (x1 : Int32) (x2 : Int32) (h : PH) (r : PH), f_Mo_takesLaw_107 n a0 x1 x2 h = some r → E d 0 0 m_Mo_takesLaw 107 [(0, .ref a0), (1, .int x1), (2, .int x2)] [] h (PV r) := by
  intro n
  induction n with
  | zero => intro a0 x1 x2 h r hq; rw [f_Mo_takesLaw_107] at hq; cases hq
  | succ n ih =>
    intro a0 x1 x2 h r hq
    rw [f_Mo_takesLaw_107] at hq
    refine E_iln 2 d_Mo_takesLaw_107 rfl rfl ?_
    refine E_aln 0 d_Mo_takesLaw_108 rfl rfl ?_
    obtain ⟨v1, ev1, hq⟩ := bd hq
    refine E_gI d_Mo_takesLaw_109 lk_Mo_221 rfl ev1 ?_
    refine E_jge (tgt := 171) d_Mo_takesLaw_112 (by decide) (fun c => ?_) (fun c => ?_)
    · rw [if_pos c] at hq
      refine E_aln 0 d_Mo_takesLaw_171 rfl rfl ?_
      obtain ⟨v2, ev2, hq⟩ := bd hq
      refine E_gR d_Mo_takesLaw_172 lk_Mo_40 rfl ev2 ?_
      refine E_aln 0 d_Mo_takesLaw_175 rfl rfl ?_
      obtain ⟨v3, ev3, hq⟩ := bd hq
      refine E_gI d_Mo_takesLaw_176 lk_Mo_275 rfl ev3 ?_
      refine E_iln 1 d_Mo_takesLaw_179 rfl rfl ?_
      obtain ⟨h4, eh4, hq⟩ := bd hq
      refine E_wa d_Mo_takesLaw_180 eh4 ?_
      exact E_rV d_Mo_takesLaw_181 rfl hq
    · rw [if_neg c] at hq
      refine E_aln 0 d_Mo_takesLaw_115 rfl rfl ?_
      obtain ⟨v5, ev5, hq⟩ := bd hq
      refine E_gR d_Mo_takesLaw_116 lk_Mo_55 rfl ev5 ?_
      refine E_si (v := 400) d_Mo_takesLaw_119 (by decide) ?_
      refine E_aln 0 d_Mo_takesLaw_122 rfl rfl ?_
      obtain ⟨v6, ev6, hq⟩ := bd hq
      refine E_gI d_Mo_takesLaw_123 lk_Mo_275 rfl ev6 ?_
      refine E_imul d_Mo_takesLaw_126 ?_
      refine E_iln 2 d_Mo_takesLaw_127 rfl rfl ?_
      refine E_iadd d_Mo_takesLaw_128 ?_
      refine E_aln 0 d_Mo_takesLaw_129 rfl rfl ?_
      obtain ⟨v7, ev7, hq⟩ := bd hq
      refine E_gR d_Mo_takesLaw_130 lk_Mo_55 rfl ev7 ?_
      refine E_si (v := 800) d_Mo_takesLaw_133 (by decide) ?_
      refine E_iln 2 d_Mo_takesLaw_136 rfl rfl ?_
      refine E_iadd d_Mo_takesLaw_137 ?_
      obtain ⟨v8, ev8, hq⟩ := bd hq
      refine E_ra d_Mo_takesLaw_138 ev8 ?_
      obtain ⟨h9, eh9, hq⟩ := bd hq
      refine E_wa d_Mo_takesLaw_139 eh9 ?_
      refine E_aln 0 d_Mo_takesLaw_140 rfl rfl ?_
      obtain ⟨v10, ev10, hq⟩ := bd hq
      refine E_gR d_Mo_takesLaw_141 lk_Mo_58 rfl ev10 ?_
      refine E_si (v := 400) d_Mo_takesLaw_144 (by decide) ?_
      refine E_aln 0 d_Mo_takesLaw_147 rfl rfl ?_
      obtain ⟨v11, ev11, hq⟩ := bd hq
      refine E_gI d_Mo_takesLaw_148 lk_Mo_275 rfl ev11 ?_
      refine E_imul d_Mo_takesLaw_151 ?_
      refine E_iln 2 d_Mo_takesLaw_152 rfl rfl ?_
      refine E_iadd d_Mo_takesLaw_153 ?_
      refine E_aln 0 d_Mo_takesLaw_154 rfl rfl ?_
      obtain ⟨v12, ev12, hq⟩ := bd hq
      refine E_gR d_Mo_takesLaw_155 lk_Mo_58 rfl ev12 ?_
      refine E_si (v := 800) d_Mo_takesLaw_158 (by decide) ?_
      refine E_iln 2 d_Mo_takesLaw_161 rfl rfl ?_
      refine E_iadd d_Mo_takesLaw_162 ?_
      obtain ⟨v13, ev13, hq⟩ := bd hq
      refine E_ra d_Mo_takesLaw_163 ev13 ?_
      obtain ⟨h14, eh14, hq⟩ := bd hq
      refine E_wa d_Mo_takesLaw_164 eh14 ?_
      refine E_inc (v := 1) (ls' := [(2, .int (x2 + 1)), (0, .ref a0), (1, .int x1)]) 2 d_Mo_takesLaw_165 rfl (Nat.le_of_ble_eq_true rfl) (by decide) rfl ?_
      refine E_goto (tgt := 107) d_Mo_takesLaw_168 (by decide) ?_
      exact E_sub (ks := [1, 2, 0]) rfl <| ih _ _ _ _ _ hq
def f_Mo_takesLaw_2 : Nat → Nat → Int32 → Int32 → PH → Option (PH)
  | 0, _, _, _, _ => none
  | n + 1, a0, x1, x2, h =>
    if x1 ≤ x2 then
      f_Mo_takesLaw_107 FU a0 x1 0 h
    else
      (ldR h 9 a0 21).bind fun v1 =>
      (ldI h 9 a0 27).bind fun v2 =>
      (ldR h 9 a0 21).bind fun v3 =>
      (rdA h v3 (32 + x2)).bind fun v4 =>
      (wrA h v1 ((16 * v2) + x2) v4).bind fun h5 =>
      (ldR h5 9 a0 22).bind fun v6 =>
      (ldI h5 9 a0 27).bind fun v7 =>
      (ldR h5 9 a0 22).bind fun v8 =>
      (rdA h5 v8 (32 + x2)).bind fun v9 =>
      (wrA h5 v6 ((16 * v7) + x2) v9).bind fun h10 =>
      (ldR h10 9 a0 23).bind fun v11 =>
      (ldI h10 9 a0 27).bind fun v12 =>
      (ldR h10 9 a0 23).bind fun v13 =>
      (rdA h10 v13 (32 + x2)).bind fun v14 =>
      (wrA h10 v11 ((16 * v12) + x2) v14).bind fun h15 =>
      (ldR h15 9 a0 24).bind fun v16 =>
      (ldI h15 9 a0 27).bind fun v17 =>
      (ldR h15 9 a0 24).bind fun v18 =>
      (rdA h15 v18 (32 + x2)).bind fun v19 =>
      (wrA h15 v16 ((16 * v17) + x2) v19).bind fun h20 =>
      f_Mo_takesLaw_2 n a0 x1 (x2 + 1) h20
theorem t_Mo_takesLaw_2 {d : Nat} (hd : 0 ≤ d) : ∀ (n : Nat) (a0 : Nat) (x1 : Int32) (x2 : Int32) (h : PH) (r : PH), f_Mo_takesLaw_2 n a0 x1 x2 h = some r → E d 0 0 m_Mo_takesLaw 2 [(0, .ref a0), (1, .int x1), (2, .int x2)] [] h (PV r) := by
  intro n
  induction n with
  | zero => intro a0 x1 x2 h r hq; rw [f_Mo_takesLaw_2] at hq; cases hq
  | succ n ih =>
    intro a0 x1 x2 h r hq
    rw [f_Mo_takesLaw_2] at hq
    refine E_iln 2 d_Mo_takesLaw_2 rfl rfl ?_
    refine E_iln 1 d_Mo_takesLaw_3 rfl rfl ?_
    refine E_jge (tgt := 105) d_Mo_takesLaw_4 (by decide) (fun c => ?_) (fun c => ?_)
    · rw [if_pos c] at hq
      refine E_ic (v := 0) d_Mo_takesLaw_105 (by decide) ?_
      refine E_isn (ls' := [(2, .int 0), (0, .ref a0), (1, .int x1)]) d_Mo_takesLaw_106 (Nat.le_of_ble_eq_true rfl) rfl ?_
      exact E_sub (ks := [1, 2, 0]) rfl <| t_Mo_takesLaw_107 (by omega) _ _ _ _ _ _ hq
    · rw [if_neg c] at hq
      refine E_aln 0 d_Mo_takesLaw_7 rfl rfl ?_
      obtain ⟨v1, ev1, hq⟩ := bd hq
      refine E_gR d_Mo_takesLaw_8 lk_Mo_43 rfl ev1 ?_
      refine E_bi (v := 16) d_Mo_takesLaw_11 (by decide) ?_
      refine E_aln 0 d_Mo_takesLaw_13 rfl rfl ?_
      obtain ⟨v2, ev2, hq⟩ := bd hq
      refine E_gI d_Mo_takesLaw_14 lk_Mo_275 rfl ev2 ?_
      refine E_imul d_Mo_takesLaw_17 ?_
      refine E_iln 2 d_Mo_takesLaw_18 rfl rfl ?_
      refine E_iadd d_Mo_takesLaw_19 ?_
      refine E_aln 0 d_Mo_takesLaw_20 rfl rfl ?_
      obtain ⟨v3, ev3, hq⟩ := bd hq
      refine E_gR d_Mo_takesLaw_21 lk_Mo_43 rfl ev3 ?_
      refine E_bi (v := 32) d_Mo_takesLaw_24 (by decide) ?_
      refine E_iln 2 d_Mo_takesLaw_26 rfl rfl ?_
      refine E_iadd d_Mo_takesLaw_27 ?_
      obtain ⟨v4, ev4, hq⟩ := bd hq
      refine E_ra d_Mo_takesLaw_28 ev4 ?_
      obtain ⟨h5, eh5, hq⟩ := bd hq
      refine E_wa d_Mo_takesLaw_29 eh5 ?_
      refine E_aln 0 d_Mo_takesLaw_30 rfl rfl ?_
      obtain ⟨v6, ev6, hq⟩ := bd hq
      refine E_gR d_Mo_takesLaw_31 lk_Mo_46 rfl ev6 ?_
      refine E_bi (v := 16) d_Mo_takesLaw_34 (by decide) ?_
      refine E_aln 0 d_Mo_takesLaw_36 rfl rfl ?_
      obtain ⟨v7, ev7, hq⟩ := bd hq
      refine E_gI d_Mo_takesLaw_37 lk_Mo_275 rfl ev7 ?_
      refine E_imul d_Mo_takesLaw_40 ?_
      refine E_iln 2 d_Mo_takesLaw_41 rfl rfl ?_
      refine E_iadd d_Mo_takesLaw_42 ?_
      refine E_aln 0 d_Mo_takesLaw_43 rfl rfl ?_
      obtain ⟨v8, ev8, hq⟩ := bd hq
      refine E_gR d_Mo_takesLaw_44 lk_Mo_46 rfl ev8 ?_
      refine E_bi (v := 32) d_Mo_takesLaw_47 (by decide) ?_
      refine E_iln 2 d_Mo_takesLaw_49 rfl rfl ?_
      refine E_iadd d_Mo_takesLaw_50 ?_
      obtain ⟨v9, ev9, hq⟩ := bd hq
      refine E_ra d_Mo_takesLaw_51 ev9 ?_
      obtain ⟨h10, eh10, hq⟩ := bd hq
      refine E_wa d_Mo_takesLaw_52 eh10 ?_
      refine E_aln 0 d_Mo_takesLaw_53 rfl rfl ?_
      obtain ⟨v11, ev11, hq⟩ := bd hq
      refine E_gR d_Mo_takesLaw_54 lk_Mo_49 rfl ev11 ?_
      refine E_bi (v := 16) d_Mo_takesLaw_57 (by decide) ?_
      refine E_aln 0 d_Mo_takesLaw_59 rfl rfl ?_
      obtain ⟨v12, ev12, hq⟩ := bd hq
      refine E_gI d_Mo_takesLaw_60 lk_Mo_275 rfl ev12 ?_
      refine E_imul d_Mo_takesLaw_63 ?_
      refine E_iln 2 d_Mo_takesLaw_64 rfl rfl ?_
      refine E_iadd d_Mo_takesLaw_65 ?_
      refine E_aln 0 d_Mo_takesLaw_66 rfl rfl ?_
      obtain ⟨v13, ev13, hq⟩ := bd hq
      refine E_gR d_Mo_takesLaw_67 lk_Mo_49 rfl ev13 ?_
      refine E_bi (v := 32) d_Mo_takesLaw_70 (by decide) ?_
      refine E_iln 2 d_Mo_takesLaw_72 rfl rfl ?_
      refine E_iadd d_Mo_takesLaw_73 ?_
      obtain ⟨v14, ev14, hq⟩ := bd hq
      refine E_ra d_Mo_takesLaw_74 ev14 ?_
      obtain ⟨h15, eh15, hq⟩ := bd hq
      refine E_wa d_Mo_takesLaw_75 eh15 ?_
      refine E_aln 0 d_Mo_takesLaw_76 rfl rfl ?_
      obtain ⟨v16, ev16, hq⟩ := bd hq
      refine E_gR d_Mo_takesLaw_77 lk_Mo_52 rfl ev16 ?_
      refine E_bi (v := 16) d_Mo_takesLaw_80 (by decide) ?_
      refine E_aln 0 d_Mo_takesLaw_82 rfl rfl ?_
      obtain ⟨v17, ev17, hq⟩ := bd hq
      refine E_gI d_Mo_takesLaw_83 lk_Mo_275 rfl ev17 ?_
      refine E_imul d_Mo_takesLaw_86 ?_
      refine E_iln 2 d_Mo_takesLaw_87 rfl rfl ?_
      refine E_iadd d_Mo_takesLaw_88 ?_
      refine E_aln 0 d_Mo_takesLaw_89 rfl rfl ?_
      obtain ⟨v18, ev18, hq⟩ := bd hq
      refine E_gR d_Mo_takesLaw_90 lk_Mo_52 rfl ev18 ?_
      refine E_bi (v := 32) d_Mo_takesLaw_93 (by decide) ?_
      refine E_iln 2 d_Mo_takesLaw_95 rfl rfl ?_
      refine E_iadd d_Mo_takesLaw_96 ?_
      obtain ⟨v19, ev19, hq⟩ := bd hq
      refine E_ra d_Mo_takesLaw_97 ev19 ?_
      obtain ⟨h20, eh20, hq⟩ := bd hq
      refine E_wa d_Mo_takesLaw_98 eh20 ?_
      refine E_inc (v := 1) (ls' := [(2, .int (x2 + 1)), (0, .ref a0), (1, .int x1)]) 2 d_Mo_takesLaw_99 rfl (Nat.le_of_ble_eq_true rfl) (by decide) rfl ?_
      refine E_goto (tgt := 2) d_Mo_takesLaw_102 (by decide) ?_
      exact E_sub (ks := [1, 2, 0]) rfl <| ih _ _ _ _ _ hq
def f_Mo_takesLaw (a0 : Nat) (x1 : Int32) (h : PH) : Option (PH) :=
  f_Mo_takesLaw_2 FU a0 x1 0 h
theorem t_Mo_takesLaw {d : Nat} (hd : 0 ≤ d) {a0 : Nat} {x1 : Int32} {h : PH} {r : PH} (hq : f_Mo_takesLaw a0 x1 h = some r) : E d 0 0 m_Mo_takesLaw 0 [(0, .ref a0), (1, .int x1)] [] h (PV r) := by
  unfold f_Mo_takesLaw at hq
  refine E_ic (v := 0) d_Mo_takesLaw_0 (by decide) ?_
  refine E_isn (ls' := [(2, .int 0), (0, .ref a0), (1, .int x1)]) d_Mo_takesLaw_1 (Nat.le_of_ble_eq_true rfl) rfl ?_
  exact E_sub (ks := [1, 2, 0]) rfl <| t_Mo_takesLaw_2 (by omega) _ _ _ _ _ _ hq
def f_Mo_takesOther_92 : Nat → Nat → Int32 → Int32 → PH → Option (PH)
  | 0, _, _, _, _ => none
  | n + 1, a0, x2, x3, h =>
    if (4 * x2) ≤ x3 then
      (stI h 9 a0 40 x2).bind fun h1 =>
      some h1
    else
      (ldR h 9 a0 41).bind fun v2 =>
      (ldR h 9 a0 41).bind fun v3 =>
      (rdA h v3 (64 + x3)).bind fun v4 =>
      (wrA h v2 x3 v4).bind fun h5 =>
      f_Mo_takesOther_92 n a0 x2 (x3 + 1) h5
theorem t_Mo_takesOther_92 {d : Nat} (hd : 0 ≤ d) : ∀ (n : Nat) (a0 : Nat) (x2 : Int32) (x3 : Int32) (h : PH) (r : PH), f_Mo_takesOther_92 n a0 x2 x3 h = some r → E d 0 0 m_Mo_takesOther 92 [(0, .ref a0), (2, .int x2), (3, .int x3)] [] h (PV r) := by
  intro n
  induction n with
  | zero => intro a0 x2 x3 h r hq; rw [f_Mo_takesOther_92] at hq; cases hq
  | succ n ih =>
    intro a0 x2 x3 h r hq
    rw [f_Mo_takesOther_92] at hq
    refine E_iln 2 d_Mo_takesOther_92 rfl rfl ?_
    refine E_ic (v := 4) d_Mo_takesOther_93 (by decide) ?_
    refine E_iln 1 d_Mo_takesOther_94 rfl rfl ?_
    refine E_imul d_Mo_takesOther_95 ?_
    refine E_jge (tgt := 120) d_Mo_takesOther_96 (by decide) (fun c => ?_) (fun c => ?_)
    · rw [if_pos c] at hq
      refine E_aln 0 d_Mo_takesOther_120 rfl rfl ?_
      refine E_iln 1 d_Mo_takesOther_121 rfl rfl ?_
      obtain ⟨h1, eh1, hq⟩ := bd hq
      refine E_pI d_Mo_takesOther_122 lp_Mo_m_318 rfl eh1 ?_
      exact E_rV d_Mo_takesOther_125 rfl hq
    · rw [if_neg c] at hq
      refine E_aln 0 d_Mo_takesOther_99 rfl rfl ?_
      obtain ⟨v2, ev2, hq⟩ := bd hq
      refine E_gR d_Mo_takesOther_100 lk_Mo_74 rfl ev2 ?_
      refine E_iln 2 d_Mo_takesOther_103 rfl rfl ?_
      refine E_aln 0 d_Mo_takesOther_104 rfl rfl ?_
      obtain ⟨v3, ev3, hq⟩ := bd hq
      refine E_gR d_Mo_takesOther_105 lk_Mo_74 rfl ev3 ?_
      refine E_bi (v := 64) d_Mo_takesOther_108 (by decide) ?_
      refine E_iln 2 d_Mo_takesOther_110 rfl rfl ?_
      refine E_iadd d_Mo_takesOther_111 ?_
      obtain ⟨v4, ev4, hq⟩ := bd hq
      refine E_ra d_Mo_takesOther_112 ev4 ?_
      obtain ⟨h5, eh5, hq⟩ := bd hq
      refine E_wa d_Mo_takesOther_113 eh5 ?_
      refine E_inc (v := 1) (ls' := [(3, .int (x3 + 1)), (0, .ref a0), (2, .int x2)]) 2 d_Mo_takesOther_114 rfl (Nat.le_of_ble_eq_true rfl) (by decide) rfl ?_
      refine E_goto (tgt := 92) d_Mo_takesOther_117 (by decide) ?_
      exact E_sub (ks := [1, 2, 0]) rfl <| ih _ _ _ _ _ hq
def f_Mo_takesOther_49 : Nat → Nat → Int32 → Int32 → PH → Option (PH)
  | 0, _, _, _, _ => none
  | n + 1, a0, x2, x3, h =>
    if (4 * x2) ≤ x3 then
      (stI h 9 a0 38 x2).bind fun h1 =>
      (stI h1 9 a0 3 0).bind fun h2 =>
      some h2
    else
      (ldR h 9 a0 39).bind fun v3 =>
      (ldR h 9 a0 39).bind fun v4 =>
      (rdA h v4 (64 + x3)).bind fun v5 =>
      (wrA h v3 x3 v5).bind fun h6 =>
      f_Mo_takesOther_49 n a0 x2 (x3 + 1) h6
theorem t_Mo_takesOther_49 {d : Nat} (hd : 0 ≤ d) : ∀ (n : Nat) (a0 : Nat) (x2 : Int32) (x3 : Int32) (h : PH) (r : PH), f_Mo_takesOther_49 n a0 x2 x3 h = some r → E d 0 0 m_Mo_takesOther 49 [(0, .ref a0), (2, .int x2), (3, .int x3)] [] h (PV r) := by
  intro n
  induction n with
  | zero => intro a0 x2 x3 h r hq; rw [f_Mo_takesOther_49] at hq; cases hq
  | succ n ih =>
    intro a0 x2 x3 h r hq
    rw [f_Mo_takesOther_49] at hq
    refine E_iln 2 d_Mo_takesOther_49 rfl rfl ?_
    refine E_ic (v := 4) d_Mo_takesOther_50 (by decide) ?_
    refine E_iln 1 d_Mo_takesOther_51 rfl rfl ?_
    refine E_imul d_Mo_takesOther_52 ?_
    refine E_jge (tgt := 77) d_Mo_takesOther_53 (by decide) (fun c => ?_) (fun c => ?_)
    · rw [if_pos c] at hq
      refine E_aln 0 d_Mo_takesOther_77 rfl rfl ?_
      refine E_iln 1 d_Mo_takesOther_78 rfl rfl ?_
      obtain ⟨h1, eh1, hq⟩ := bd hq
      refine E_pI d_Mo_takesOther_79 lp_Mo_m_315 rfl eh1 ?_
      refine E_aln 0 d_Mo_takesOther_82 rfl rfl ?_
      refine E_ic (v := 0) d_Mo_takesOther_83 (by decide) ?_
      obtain ⟨h2, eh2, hq⟩ := bd hq
      refine E_pI d_Mo_takesOther_84 lp_Mo_m_143 rfl eh2 ?_
      refine E_goto (tgt := 125) d_Mo_takesOther_87 (by decide) ?_
      exact E_rV d_Mo_takesOther_125 rfl hq
    · rw [if_neg c] at hq
      refine E_aln 0 d_Mo_takesOther_56 rfl rfl ?_
      obtain ⟨v3, ev3, hq⟩ := bd hq
      refine E_gR d_Mo_takesOther_57 lk_Mo_71 rfl ev3 ?_
      refine E_iln 2 d_Mo_takesOther_60 rfl rfl ?_
      refine E_aln 0 d_Mo_takesOther_61 rfl rfl ?_
      obtain ⟨v4, ev4, hq⟩ := bd hq
      refine E_gR d_Mo_takesOther_62 lk_Mo_71 rfl ev4 ?_
      refine E_bi (v := 64) d_Mo_takesOther_65 (by decide) ?_
      refine E_iln 2 d_Mo_takesOther_67 rfl rfl ?_
      refine E_iadd d_Mo_takesOther_68 ?_
      obtain ⟨v5, ev5, hq⟩ := bd hq
      refine E_ra d_Mo_takesOther_69 ev5 ?_
      obtain ⟨h6, eh6, hq⟩ := bd hq
      refine E_wa d_Mo_takesOther_70 eh6 ?_
      refine E_inc (v := 1) (ls' := [(3, .int (x3 + 1)), (0, .ref a0), (2, .int x2)]) 2 d_Mo_takesOther_71 rfl (Nat.le_of_ble_eq_true rfl) (by decide) rfl ?_
      refine E_goto (tgt := 49) d_Mo_takesOther_74 (by decide) ?_
      exact E_sub (ks := [1, 2, 0]) rfl <| ih _ _ _ _ _ hq
def f_Mo_takesOther_7 : Nat → Nat → Int32 → Int32 → PH → Option (PH)
  | 0, _, _, _, _ => none
  | n + 1, a0, x2, x3, h =>
    if 12 ≤ x3 then
      (stI h 9 a0 36 x2).bind fun h1 =>
      some h1
    else
      (ldR h 9 a0 37).bind fun v2 =>
      (ldR h 9 a0 37).bind fun v3 =>
      (rdA h v3 (12 + x3)).bind fun v4 =>
      (wrA h v2 x3 v4).bind fun h5 =>
      f_Mo_takesOther_7 n a0 x2 (x3 + 1) h5
theorem t_Mo_takesOther_7 {d : Nat} (hd : 0 ≤ d) : ∀ (n : Nat) (a0 : Nat) (x2 : Int32) (x3 : Int32) (h : PH) (r : PH), f_Mo_takesOther_7 n a0 x2 x3 h = some r → E d 0 0 m_Mo_takesOther 7 [(0, .ref a0), (2, .int x2), (3, .int x3)] [] h (PV r) := by
  intro n
  induction n with
  | zero => intro a0 x2 x3 h r hq; rw [f_Mo_takesOther_7] at hq; cases hq
  | succ n ih =>
    intro a0 x2 x3 h r hq
    rw [f_Mo_takesOther_7] at hq
    refine E_iln 2 d_Mo_takesOther_7 rfl rfl ?_
    refine E_bi (v := 12) d_Mo_takesOther_8 (by decide) ?_
    refine E_jge (tgt := 34) d_Mo_takesOther_10 (by decide) (fun c => ?_) (fun c => ?_)
    · rw [if_pos c] at hq
      refine E_aln 0 d_Mo_takesOther_34 rfl rfl ?_
      refine E_iln 1 d_Mo_takesOther_35 rfl rfl ?_
      obtain ⟨h1, eh1, hq⟩ := bd hq
      refine E_pI d_Mo_takesOther_36 lp_Mo_m_312 rfl eh1 ?_
      refine E_goto (tgt := 125) d_Mo_takesOther_39 (by decide) ?_
      exact E_rV d_Mo_takesOther_125 rfl hq
    · rw [if_neg c] at hq
      refine E_aln 0 d_Mo_takesOther_13 rfl rfl ?_
      obtain ⟨v2, ev2, hq⟩ := bd hq
      refine E_gR d_Mo_takesOther_14 lk_Mo_68 rfl ev2 ?_
      refine E_iln 2 d_Mo_takesOther_17 rfl rfl ?_
      refine E_aln 0 d_Mo_takesOther_18 rfl rfl ?_
      obtain ⟨v3, ev3, hq⟩ := bd hq
      refine E_gR d_Mo_takesOther_19 lk_Mo_68 rfl ev3 ?_
      refine E_bi (v := 12) d_Mo_takesOther_22 (by decide) ?_
      refine E_iln 2 d_Mo_takesOther_24 rfl rfl ?_
      refine E_iadd d_Mo_takesOther_25 ?_
      obtain ⟨v4, ev4, hq⟩ := bd hq
      refine E_ra d_Mo_takesOther_26 ev4 ?_
      obtain ⟨h5, eh5, hq⟩ := bd hq
      refine E_wa d_Mo_takesOther_27 eh5 ?_
      refine E_inc (v := 1) (ls' := [(3, .int (x3 + 1)), (0, .ref a0), (2, .int x2)]) 2 d_Mo_takesOther_28 rfl (Nat.le_of_ble_eq_true rfl) (by decide) rfl ?_
      refine E_goto (tgt := 7) d_Mo_takesOther_31 (by decide) ?_
      exact E_sub (ks := [1, 2, 0]) rfl <| ih _ _ _ _ _ hq
def f_Mo_takesOther (a0 : Nat) (x1 : Int32) (x2 : Int32) (h : PH) : Option (PH) :=
  if x1 = 1 then
    f_Mo_takesOther_7 FU a0 x2 0 h
  else
    if x1 = 2 then
      f_Mo_takesOther_49 FU a0 x2 0 h
    else
      f_Mo_takesOther_92 FU a0 x2 0 h
theorem t_Mo_takesOther {d : Nat} (hd : 0 ≤ d) {a0 : Nat} {x1 : Int32} {x2 : Int32} {h : PH} {r : PH} (hq : f_Mo_takesOther a0 x1 x2 h = some r) : E d 0 0 m_Mo_takesOther 0 [(0, .ref a0), (1, .int x1), (2, .int x2)] [] h (PV r) := by
  unfold f_Mo_takesOther at hq
  refine E_iln 1 d_Mo_takesOther_0 rfl rfl ?_
  refine E_ic (v := 1) d_Mo_takesOther_1 (by decide) ?_
  refine E_jne (tgt := 42) d_Mo_takesOther_2 (by decide) (fun c => ?_) (fun c => ?_)
  · rw [if_neg c] at hq
    refine E_iln 1 d_Mo_takesOther_42 rfl rfl ?_
    refine E_ic (v := 2) d_Mo_takesOther_43 (by decide) ?_
    refine E_jne (tgt := 90) d_Mo_takesOther_44 (by decide) (fun c => ?_) (fun c => ?_)
    · rw [if_neg c] at hq
      refine E_ic (v := 0) d_Mo_takesOther_90 (by decide) ?_
      refine E_isn (ls' := [(3, .int 0), (0, .ref a0), (1, .int x1), (2, .int x2)]) d_Mo_takesOther_91 (Nat.le_of_ble_eq_true rfl) rfl ?_
      exact E_sub (ks := [1, 3, 0]) rfl <| t_Mo_takesOther_92 (by omega) _ _ _ _ _ _ hq
    · rw [if_pos c] at hq
      refine E_ic (v := 0) d_Mo_takesOther_47 (by decide) ?_
      refine E_isn (ls' := [(3, .int 0), (0, .ref a0), (1, .int x1), (2, .int x2)]) d_Mo_takesOther_48 (Nat.le_of_ble_eq_true rfl) rfl ?_
      exact E_sub (ks := [1, 3, 0]) rfl <| t_Mo_takesOther_49 (by omega) _ _ _ _ _ _ hq
  · rw [if_pos c] at hq
    refine E_ic (v := 0) d_Mo_takesOther_5 (by decide) ?_
    refine E_isn (ls' := [(3, .int 0), (0, .ref a0), (1, .int x1), (2, .int x2)]) d_Mo_takesOther_6 (Nat.le_of_ble_eq_true rfl) rfl ?_
    exact E_sub (ks := [1, 3, 0]) rfl <| t_Mo_takesOther_7 (by omega) _ _ _ _ _ _ hq
def f_Mo_text_69 (a0 : Nat) (x1 : Int32) (x2 : Int32) (h : PH) : Option (Int32 × PH) :=
  (stI h 9 a0 14 0).bind fun h1 =>
  if x2 = (-1) then
    some ((-1), h1)
  else
    if x1 = 0 then
      (isO h1 9 a0).bind fun _ =>
      (f_Mo_takesLaw a0 x2 h1).bind fun h4 =>
      some (x2, h4)
    else
      (isO h1 9 a0).bind fun _ =>
      (f_Mo_takesOther a0 x1 x2 h1).bind fun h2 =>
      some (x2, h2)
theorem t_Mo_text_69 {d : Nat} (hd : 10 ≤ d) {a0 : Nat} {x1 : Int32} {x2 : Int32} {h : PH} {r : Int32 × PH} (hq : f_Mo_text_69 a0 x1 x2 h = some r) : E d 0 0 m_Mo_text 69 [(0, .ref a0), (1, .int x1), (2, .int x2)] [] h (PI r) := by
  unfold f_Mo_text_69 at hq
  obtain ⟨d, rfl⟩ : ∃ e, d = e + 1 := ⟨d - 1, by omega⟩
  refine E_aln 0 d_Mo_text_69 rfl rfl ?_
  refine E_ic (v := 0) d_Mo_text_70 (by decide) ?_
  obtain ⟨h1, eh1, hq⟩ := bd hq
  refine E_pI d_Mo_text_71 lp_Mo_m_179 rfl eh1 ?_
  refine E_iln 2 d_Mo_text_74 rfl rfl ?_
  refine E_ic (v := (-1)) d_Mo_text_75 (by decide) ?_
  refine E_jne (tgt := 81) d_Mo_text_76 (by decide) (fun c => ?_) (fun c => ?_)
  · rw [if_neg c] at hq
    refine E_iln 1 d_Mo_text_81 rfl rfl ?_
    refine E_zne (tgt := 93) d_Mo_text_82 (by decide) (fun c => ?_) (fun c => ?_)
    · rw [if_neg c] at hq
      refine E_aln 0 d_Mo_text_93 rfl rfl ?_
      refine E_iln 1 d_Mo_text_94 rfl rfl ?_
      refine E_iln 2 d_Mo_text_95 rfl rfl ?_
      obtain ⟨q3, eq3, hq⟩ := bd hq
      obtain ⟨h2, eh2, hq⟩ := bd hq
      refine E_cV2V d_Mo_text_96 ck_Mo_330 rfl rfl eq3 (Nat.le_of_ble_eq_true rfl) (Nat.le_of_ble_eq_true rfl) (t_Mo_takesOther (by omega) eh2) ?_
      refine E_iln 2 d_Mo_text_99 rfl rfl ?_
      exact E_rI d_Mo_text_100 rfl hq
    · rw [if_pos c] at hq
      refine E_aln 0 d_Mo_text_85 rfl rfl ?_
      refine E_iln 2 d_Mo_text_86 rfl rfl ?_
      obtain ⟨q5, eq5, hq⟩ := bd hq
      obtain ⟨h4, eh4, hq⟩ := bd hq
      refine E_cV1V d_Mo_text_87 ck_Mo_327 rfl rfl eq5 (Nat.le_of_ble_eq_true rfl) (Nat.le_of_ble_eq_true rfl) (t_Mo_takesLaw (by omega) eh4) ?_
      refine E_goto (tgt := 99) d_Mo_text_90 (by decide) ?_
      refine E_iln 2 d_Mo_text_99 rfl rfl ?_
      exact E_rI d_Mo_text_100 rfl hq
  · rw [if_pos c] at hq
    refine E_ic (v := (-1)) d_Mo_text_79 (by decide) ?_
    exact E_rI d_Mo_text_80 rfl hq
def f_Mo_text (a0 : Nat) (x1 : Int32) (h : PH) : Option (Int32 × PH) :=
  (stI h 9 a0 0 0).bind fun h1 =>
  (stI h1 9 a0 34 0).bind fun h2 =>
  (stI h2 9 a0 35 (-1)).bind fun h3 =>
  (stI h3 9 a0 15 0).bind fun h4 =>
  (stI h4 9 a0 28 0).bind fun h5 =>
  (stI h5 9 a0 29 0).bind fun h6 =>
  (isO h6 9 a0).bind fun _ =>
  (f_Mo_isIn a0 x1 0 3 h6).bind fun p7 =>
  if p7.1 = 0 then
    f_Mo_text_69 a0 x1 (-1) p7.2
  else
    (isO p7.2 9 a0).bind fun _ =>
    (f_Mo_readsText a0 x1 p7.2).bind fun p9 =>
    if p9.1 = (-1) then
      (ldI p9.2 9 a0 32).bind fun v11 =>
      (stI p9.2 9 a0 34 v11).bind fun h12 =>
      (ldI h12 9 a0 33).bind fun v13 =>
      (stI h12 9 a0 35 v13).bind fun h14 =>
      f_Mo_text_69 a0 x1 p9.1 h14
    else
      f_Mo_text_69 a0 x1 p9.1 p9.2
theorem t_Mo_text {d : Nat} (hd : 10 ≤ d) {a0 : Nat} {x1 : Int32} {h : PH} {r : Int32 × PH} (hq : f_Mo_text a0 x1 h = some r) : E d 0 0 m_Mo_text 0 [(0, .ref a0), (1, .int x1)] [] h (PI r) := by
  unfold f_Mo_text at hq
  obtain ⟨d, rfl⟩ : ∃ e, d = e + 1 := ⟨d - 1, by omega⟩
  refine E_aln 0 d_Mo_text_0 rfl rfl ?_
  refine E_ic (v := 0) d_Mo_text_1 (by decide) ?_
  obtain ⟨h1, eh1, hq⟩ := bd hq
  refine E_pI d_Mo_text_2 lp_Mo_m_140 rfl eh1 ?_
  refine E_aln 0 d_Mo_text_5 rfl rfl ?_
  refine E_ic (v := 0) d_Mo_text_6 (by decide) ?_
  obtain ⟨h2, eh2, hq⟩ := bd hq
  refine E_pI d_Mo_text_7 lp_Mo_m_321 rfl eh2 ?_
  refine E_aln 0 d_Mo_text_10 rfl rfl ?_
  refine E_ic (v := (-1)) d_Mo_text_11 (by decide) ?_
  obtain ⟨h3, eh3, hq⟩ := bd hq
  refine E_pI d_Mo_text_12 lp_Mo_m_64 rfl eh3 ?_
  refine E_aln 0 d_Mo_text_15 rfl rfl ?_
  refine E_ic (v := 0) d_Mo_text_16 (by decide) ?_
  obtain ⟨h4, eh4, hq⟩ := bd hq
  refine E_pI d_Mo_text_17 lp_Mo_m_186 rfl eh4 ?_
  refine E_aln 0 d_Mo_text_20 rfl rfl ?_
  refine E_ic (v := 0) d_Mo_text_21 (by decide) ?_
  obtain ⟨h5, eh5, hq⟩ := bd hq
  refine E_pI d_Mo_text_22 lp_Mo_m_221 rfl eh5 ?_
  refine E_aln 0 d_Mo_text_25 rfl rfl ?_
  refine E_ic (v := 0) d_Mo_text_26 (by decide) ?_
  obtain ⟨h6, eh6, hq⟩ := bd hq
  refine E_pI d_Mo_text_27 lp_Mo_m_253 rfl eh6 ?_
  refine E_ic (v := (-1)) d_Mo_text_30 (by decide) ?_
  refine E_isn (ls' := [(2, .int (-1)), (0, .ref a0), (1, .int x1)]) d_Mo_text_31 (Nat.le_of_ble_eq_true rfl) rfl ?_
  refine E_aln 1 d_Mo_text_32 rfl rfl ?_
  refine E_iln 2 d_Mo_text_33 rfl rfl ?_
  refine E_ic (v := 0) d_Mo_text_34 (by decide) ?_
  refine E_ic (v := 3) d_Mo_text_35 (by decide) ?_
  obtain ⟨q8, eq8, hq⟩ := bd hq
  obtain ⟨p7, ep7, hq⟩ := bd hq
  refine E_cV3I d_Mo_text_36 ck_Mo_162 rfl rfl eq8 (Nat.le_of_ble_eq_true rfl) (Nat.le_of_ble_eq_true rfl) (t_Mo_isIn (by omega) ep7) ?_
  refine E_zeq (tgt := 69) d_Mo_text_39 (by decide) (fun c => ?_) (fun c => ?_)
  · rw [if_pos c] at hq
    exact E_sub (ks := [1, 2, 0]) rfl <| t_Mo_text_69 (by omega) hq
  · rw [if_neg c] at hq
    refine E_aln 1 d_Mo_text_42 rfl rfl ?_
    refine E_iln 2 d_Mo_text_43 rfl rfl ?_
    obtain ⟨q10, eq10, hq⟩ := bd hq
    obtain ⟨p9, ep9, hq⟩ := bd hq
    refine E_cV1I d_Mo_text_44 ck_Mo_324 rfl rfl eq10 (Nat.le_of_ble_eq_true rfl) (Nat.le_of_ble_eq_true rfl) (t_Mo_readsText (by omega) ep9) ?_
    refine E_isn (ls' := [(2, .int p9.1), (0, .ref a0), (1, .int x1)]) d_Mo_text_47 (Nat.le_of_ble_eq_true rfl) rfl ?_
    refine E_iln 0 d_Mo_text_48 rfl rfl ?_
    refine E_ic (v := (-1)) d_Mo_text_49 (by decide) ?_
    refine E_jne (tgt := 69) d_Mo_text_50 (by decide) (fun c => ?_) (fun c => ?_)
    · rw [if_neg c] at hq
      exact E_sub (ks := [1, 2, 0]) rfl <| t_Mo_text_69 (by omega) hq
    · rw [if_pos c] at hq
      refine E_aln 1 d_Mo_text_53 rfl rfl ?_
      refine E_aln 1 d_Mo_text_54 rfl rfl ?_
      obtain ⟨v11, ev11, hq⟩ := bd hq
      refine E_gI d_Mo_text_55 lk_Mo_215 rfl ev11 ?_
      obtain ⟨h12, eh12, hq⟩ := bd hq
      refine E_pI d_Mo_text_58 lp_Mo_m_321 rfl eh12 ?_
      refine E_aln 1 d_Mo_text_61 rfl rfl ?_
      refine E_aln 1 d_Mo_text_62 rfl rfl ?_
      obtain ⟨v13, ev13, hq⟩ := bd hq
      refine E_gI d_Mo_text_63 lk_Mo_218 rfl ev13 ?_
      obtain ⟨h14, eh14, hq⟩ := bd hq
      refine E_pI d_Mo_text_66 lp_Mo_m_64 rfl eh14 ?_
      exact E_sub (ks := [1, 2, 0]) rfl <| t_Mo_text_69 (by omega) hq
def f_Mo_fault (a0 : Nat) (x1 : Int32) (h : PH) : Option (Int32 × PH) :=
  (stI h 9 a0 0 0).bind fun h1 =>
  if x1 = 0 then
    (ldI h1 9 a0 34).bind fun v3 =>
    some (v3, h1)
  else
    if x1 = 1 then
      (ldI h1 9 a0 35).bind fun v2 =>
      some (v2, h1)
    else
      some ((-1), h1)
theorem t_Mo_fault {d : Nat} (hd : 0 ≤ d) {a0 : Nat} {x1 : Int32} {h : PH} {r : Int32 × PH} (hq : f_Mo_fault a0 x1 h = some r) : E d 0 0 m_Mo_fault 0 [(0, .ref a0), (1, .int x1)] [] h (PI r) := by
  unfold f_Mo_fault at hq
  refine E_aln 0 d_Mo_fault_0 rfl rfl ?_
  refine E_ic (v := 0) d_Mo_fault_1 (by decide) ?_
  obtain ⟨h1, eh1, hq⟩ := bd hq
  refine E_pI d_Mo_fault_2 lp_Mo_m_140 rfl eh1 ?_
  refine E_iln 1 d_Mo_fault_5 rfl rfl ?_
  refine E_zne (tgt := 16) d_Mo_fault_6 (by decide) (fun c => ?_) (fun c => ?_)
  · rw [if_neg c] at hq
    refine E_iln 1 d_Mo_fault_16 rfl rfl ?_
    refine E_ic (v := 1) d_Mo_fault_17 (by decide) ?_
    refine E_jne (tgt := 28) d_Mo_fault_18 (by decide) (fun c => ?_) (fun c => ?_)
    · rw [if_neg c] at hq
      refine E_ic (v := (-1)) d_Mo_fault_28 (by decide) ?_
      exact E_rI d_Mo_fault_29 rfl hq
    · rw [if_pos c] at hq
      refine E_aln 0 d_Mo_fault_21 rfl rfl ?_
      obtain ⟨v2, ev2, hq⟩ := bd hq
      refine E_gI d_Mo_fault_22 lk_Mo_64 rfl ev2 ?_
      refine E_goto (tgt := 29) d_Mo_fault_25 (by decide) ?_
      exact E_rI d_Mo_fault_29 rfl hq
  · rw [if_pos c] at hq
    refine E_aln 0 d_Mo_fault_9 rfl rfl ?_
    obtain ⟨v3, ev3, hq⟩ := bd hq
    refine E_gI d_Mo_fault_10 lk_Mo_321 rfl ev3 ?_
    refine E_goto (tgt := 29) d_Mo_fault_13 (by decide) ?_
    exact E_rI d_Mo_fault_29 rfl hq
def f_Mo_keepsAhead_55 : Nat → Nat → Int32 → PH → Option (PH)
  | 0, _, _, _ => none
  | n + 1, a0, x1, h =>
    if 79 ≤ x1 then
      (ldI h 9 a0 3).bind fun v1 =>
      (stI h 9 a0 3 (v1 + 1)).bind fun h2 =>
      some h2
    else
      (ldR h 9 a0 2).bind fun v3 =>
      (ldI h 9 a0 3).bind fun v4 =>
      (ldR h 9 a0 1).bind fun v5 =>
      (rdA h v5 x1).bind fun v6 =>
      (wrA h v3 ((79 * v4) + x1) v6).bind fun h7 =>
      f_Mo_keepsAhead_55 n a0 (x1 + 1) h7
theorem t_Mo_keepsAhead_55 {d : Nat} (hd : 0 ≤ d) : ∀ (n : Nat) (a0 : Nat) (x1 : Int32) (h : PH) (r : PH), f_Mo_keepsAhead_55 n a0 x1 h = some r → E d 0 0 m_Mo_keepsAhead 55 [(0, .ref a0), (1, .int x1)] [] h (PV r) := by
  intro n
  induction n with
  | zero => intro a0 x1 h r hq; rw [f_Mo_keepsAhead_55] at hq; cases hq
  | succ n ih =>
    intro a0 x1 h r hq
    rw [f_Mo_keepsAhead_55] at hq
    refine E_iln 1 d_Mo_keepsAhead_55 rfl rfl ?_
    refine E_bi (v := 79) d_Mo_keepsAhead_56 (by decide) ?_
    refine E_jge (tgt := 87) d_Mo_keepsAhead_58 (by decide) (fun c => ?_) (fun c => ?_)
    · rw [if_pos c] at hq
      refine E_aln 0 d_Mo_keepsAhead_87 rfl rfl ?_
      refine E_aln 0 d_Mo_keepsAhead_88 rfl rfl ?_
      obtain ⟨v1, ev1, hq⟩ := bd hq
      refine E_gI d_Mo_keepsAhead_89 lk_Mo_143 rfl ev1 ?_
      refine E_ic (v := 1) d_Mo_keepsAhead_92 (by decide) ?_
      refine E_iadd d_Mo_keepsAhead_93 ?_
      obtain ⟨h2, eh2, hq⟩ := bd hq
      refine E_pI d_Mo_keepsAhead_94 lp_Mo_m_143 rfl eh2 ?_
      exact E_rV d_Mo_keepsAhead_97 rfl hq
    · rw [if_neg c] at hq
      refine E_aln 0 d_Mo_keepsAhead_61 rfl rfl ?_
      obtain ⟨v3, ev3, hq⟩ := bd hq
      refine E_gR d_Mo_keepsAhead_62 lk_Mo_13 rfl ev3 ?_
      refine E_bi (v := 79) d_Mo_keepsAhead_65 (by decide) ?_
      refine E_aln 0 d_Mo_keepsAhead_67 rfl rfl ?_
      obtain ⟨v4, ev4, hq⟩ := bd hq
      refine E_gI d_Mo_keepsAhead_68 lk_Mo_143 rfl ev4 ?_
      refine E_imul d_Mo_keepsAhead_71 ?_
      refine E_iln 1 d_Mo_keepsAhead_72 rfl rfl ?_
      refine E_iadd d_Mo_keepsAhead_73 ?_
      refine E_aln 0 d_Mo_keepsAhead_74 rfl rfl ?_
      obtain ⟨v5, ev5, hq⟩ := bd hq
      refine E_gR d_Mo_keepsAhead_75 lk_Mo_7 rfl ev5 ?_
      refine E_iln 1 d_Mo_keepsAhead_78 rfl rfl ?_
      obtain ⟨v6, ev6, hq⟩ := bd hq
      refine E_ra d_Mo_keepsAhead_79 ev6 ?_
      obtain ⟨h7, eh7, hq⟩ := bd hq
      refine E_wa d_Mo_keepsAhead_80 eh7 ?_
      refine E_inc (v := 1) (ls' := [(1, .int (x1 + 1)), (0, .ref a0)]) 1 d_Mo_keepsAhead_81 rfl (Nat.le_of_ble_eq_true rfl) (by decide) rfl ?_
      refine E_goto (tgt := 55) d_Mo_keepsAhead_84 (by decide) ?_
      exact E_sub (ks := [1, 0]) rfl <| ih _ _ _ _ hq
def f_Mo_keepsAhead_53 (a0 : Nat) (h : PH) : Option (PH) :=
  f_Mo_keepsAhead_55 FU a0 0 h
theorem t_Mo_keepsAhead_53 {d : Nat} (hd : 0 ≤ d) {a0 : Nat} {h : PH} {r : PH} (hq : f_Mo_keepsAhead_53 a0 h = some r) : E d 0 0 m_Mo_keepsAhead 53 [(0, .ref a0)] [] h (PV r) := by
  unfold f_Mo_keepsAhead_53 at hq
  refine E_ic (v := 0) d_Mo_keepsAhead_53 (by decide) ?_
  refine E_isn (ls' := [(1, .int 0), (0, .ref a0)]) d_Mo_keepsAhead_54 (Nat.le_of_ble_eq_true rfl) rfl ?_
  exact E_sub (ks := [1, 0]) rfl <| t_Mo_keepsAhead_55 (by omega) _ _ _ _ _ hq
def f_Mo_keepsAhead_21 : Nat → Nat → Int32 → PH → Option (PH)
  | 0, _, _, _ => none
  | n + 1, a0, x1, h =>
    (ldI h 9 a0 3).bind fun v1 =>
    if (79 * v1) ≤ x1 then
      f_Mo_keepsAhead_53 a0 h
    else
      (ldR h 9 a0 2).bind fun v2 =>
      (ldR h 9 a0 2).bind fun v3 =>
      (rdA h v3 (x1 + 79)).bind fun v4 =>
      (wrA h v2 x1 v4).bind fun h5 =>
      f_Mo_keepsAhead_21 n a0 (x1 + 1) h5
theorem t_Mo_keepsAhead_21 {d : Nat} (hd : 0 ≤ d) : ∀ (n : Nat) (a0 : Nat) (x1 : Int32) (h : PH) (r : PH), f_Mo_keepsAhead_21 n a0 x1 h = some r → E d 0 0 m_Mo_keepsAhead 21 [(0, .ref a0), (1, .int x1)] [] h (PV r) := by
  intro n
  induction n with
  | zero => intro a0 x1 h r hq; rw [f_Mo_keepsAhead_21] at hq; cases hq
  | succ n ih =>
    intro a0 x1 h r hq
    rw [f_Mo_keepsAhead_21] at hq
    refine E_iln 1 d_Mo_keepsAhead_21 rfl rfl ?_
    refine E_bi (v := 79) d_Mo_keepsAhead_22 (by decide) ?_
    refine E_aln 0 d_Mo_keepsAhead_24 rfl rfl ?_
    obtain ⟨v1, ev1, hq⟩ := bd hq
    refine E_gI d_Mo_keepsAhead_25 lk_Mo_143 rfl ev1 ?_
    refine E_imul d_Mo_keepsAhead_28 ?_
    refine E_jge (tgt := 53) d_Mo_keepsAhead_29 (by decide) (fun c => ?_) (fun c => ?_)
    · rw [if_pos c] at hq
      exact E_sub (ks := [0]) rfl <| t_Mo_keepsAhead_53 (by omega) hq
    · rw [if_neg c] at hq
      refine E_aln 0 d_Mo_keepsAhead_32 rfl rfl ?_
      obtain ⟨v2, ev2, hq⟩ := bd hq
      refine E_gR d_Mo_keepsAhead_33 lk_Mo_13 rfl ev2 ?_
      refine E_iln 1 d_Mo_keepsAhead_36 rfl rfl ?_
      refine E_aln 0 d_Mo_keepsAhead_37 rfl rfl ?_
      obtain ⟨v3, ev3, hq⟩ := bd hq
      refine E_gR d_Mo_keepsAhead_38 lk_Mo_13 rfl ev3 ?_
      refine E_iln 1 d_Mo_keepsAhead_41 rfl rfl ?_
      refine E_bi (v := 79) d_Mo_keepsAhead_42 (by decide) ?_
      refine E_iadd d_Mo_keepsAhead_44 ?_
      obtain ⟨v4, ev4, hq⟩ := bd hq
      refine E_ra d_Mo_keepsAhead_45 ev4 ?_
      obtain ⟨h5, eh5, hq⟩ := bd hq
      refine E_wa d_Mo_keepsAhead_46 eh5 ?_
      refine E_inc (v := 1) (ls' := [(1, .int (x1 + 1)), (0, .ref a0)]) 1 d_Mo_keepsAhead_47 rfl (Nat.le_of_ble_eq_true rfl) (by decide) rfl ?_
      refine E_goto (tgt := 21) d_Mo_keepsAhead_50 (by decide) ?_
      exact E_sub (ks := [1, 0]) rfl <| ih _ _ _ _ hq
def f_Mo_keepsAhead (a0 : Nat) (h : PH) : Option (PH) :=
  (ldI h 9 a0 3).bind fun v1 =>
  if v1 = 6 then
    (ldI h 9 a0 3).bind fun v2 =>
    (stI h 9 a0 3 (v2 - 1)).bind fun h3 =>
    f_Mo_keepsAhead_21 FU a0 0 h3
  else
    f_Mo_keepsAhead_53 a0 h
theorem t_Mo_keepsAhead {d : Nat} (hd : 0 ≤ d) {a0 : Nat} {h : PH} {r : PH} (hq : f_Mo_keepsAhead a0 h = some r) : E d 0 0 m_Mo_keepsAhead 0 [(0, .ref a0)] [] h (PV r) := by
  unfold f_Mo_keepsAhead at hq
  refine E_aln 0 d_Mo_keepsAhead_0 rfl rfl ?_
  obtain ⟨v1, ev1, hq⟩ := bd hq
  refine E_gI d_Mo_keepsAhead_1 lk_Mo_143 rfl ev1 ?_
  refine E_bi (v := 6) d_Mo_keepsAhead_4 (by decide) ?_
  refine E_jne (tgt := 53) d_Mo_keepsAhead_6 (by decide) (fun c => ?_) (fun c => ?_)
  · rw [if_neg c] at hq
    exact t_Mo_keepsAhead_53 (by omega) hq
  · rw [if_pos c] at hq
    refine E_aln 0 d_Mo_keepsAhead_9 rfl rfl ?_
    refine E_aln 0 d_Mo_keepsAhead_10 rfl rfl ?_
    obtain ⟨v2, ev2, hq⟩ := bd hq
    refine E_gI d_Mo_keepsAhead_11 lk_Mo_143 rfl ev2 ?_
    refine E_ic (v := 1) d_Mo_keepsAhead_14 (by decide) ?_
    refine E_isub d_Mo_keepsAhead_15 ?_
    obtain ⟨h3, eh3, hq⟩ := bd hq
    refine E_pI d_Mo_keepsAhead_16 lp_Mo_m_143 rfl eh3 ?_
    refine E_ic (v := 0) d_Mo_keepsAhead_19 (by decide) ?_
    refine E_isn (ls' := [(1, .int 0), (0, .ref a0)]) d_Mo_keepsAhead_20 (Nat.le_of_ble_eq_true rfl) rfl ?_
    exact E_sub (ks := [1, 0]) rfl <| t_Mo_keepsAhead_21 (by omega) _ _ _ _ _ hq
def f_Mo_greater (a0 : Nat) (x1 : Int32) (x2 : Int32) (h : PH) : Option (Int32 × PH) :=
  if x1 ≤ x2 then
    some (x2, h)
  else
    some (x1, h)
theorem t_Mo_greater {d : Nat} (hd : 0 ≤ d) {a0 : Nat} {x1 : Int32} {x2 : Int32} {h : PH} {r : Int32 × PH} (hq : f_Mo_greater a0 x1 x2 h = some r) : E d 0 0 m_Mo_greater 0 [(0, .ref a0), (1, .int x1), (2, .int x2)] [] h (PI r) := by
  unfold f_Mo_greater at hq
  refine E_iln 1 d_Mo_greater_0 rfl rfl ?_
  refine E_iln 2 d_Mo_greater_1 rfl rfl ?_
  refine E_jle (tgt := 9) d_Mo_greater_2 (by decide) (fun c => ?_) (fun c => ?_)
  · rw [if_pos c] at hq
    refine E_iln 2 d_Mo_greater_9 rfl rfl ?_
    exact E_rI d_Mo_greater_10 rfl hq
  · rw [if_neg c] at hq
    refine E_iln 1 d_Mo_greater_5 rfl rfl ?_
    refine E_goto (tgt := 10) d_Mo_greater_6 (by decide) ?_
    exact E_rI d_Mo_greater_10 rfl hq
def f_Mo_outSet_4 : Nat → Nat → Int32 → Int32 → PH → Option (Int32 × PH)
  | 0, _, _, _, _ => none
  | n + 1, a0, x1, x2, h =>
    (ldI h 9 a0 6).bind fun v1 =>
    if v1 ≤ x2 then
      some (x1, h)
    else
      (ldR h 9 a0 1).bind fun v2 =>
      (rdA h v2 (43 + x2)).bind fun v3 =>
      if v3 = 1 then
        f_Mo_outSet_4 n a0 (x1 ||| (jshl 1 x2)) (x2 + 1) h
      else
        f_Mo_outSet_4 n a0 x1 (x2 + 1) h
theorem t_Mo_outSet_4 {d : Nat} (hd : 0 ≤ d) : ∀ (n : Nat) (a0 : Nat) (x1 : Int32) (x2 : Int32) (h : PH) (r : Int32 × PH), f_Mo_outSet_4 n a0 x1 x2 h = some r → E d 0 0 m_Mo_outSet 4 [(0, .ref a0), (1, .int x1), (2, .int x2)] [] h (PI r) := by
  intro n
  induction n with
  | zero => intro a0 x1 x2 h r hq; rw [f_Mo_outSet_4] at hq; cases hq
  | succ n ih =>
    intro a0 x1 x2 h r hq
    rw [f_Mo_outSet_4] at hq
    refine E_iln 2 d_Mo_outSet_4 rfl rfl ?_
    refine E_aln 0 d_Mo_outSet_5 rfl rfl ?_
    obtain ⟨v1, ev1, hq⟩ := bd hq
    refine E_gI d_Mo_outSet_6 lk_Mo_152 rfl ev1 ?_
    refine E_jge (tgt := 37) d_Mo_outSet_9 (by decide) (fun c => ?_) (fun c => ?_)
    · rw [if_pos c] at hq
      refine E_iln 1 d_Mo_outSet_37 rfl rfl ?_
      exact E_rI d_Mo_outSet_38 rfl hq
    · rw [if_neg c] at hq
      refine E_aln 0 d_Mo_outSet_12 rfl rfl ?_
      obtain ⟨v2, ev2, hq⟩ := bd hq
      refine E_gR d_Mo_outSet_13 lk_Mo_7 rfl ev2 ?_
      refine E_bi (v := 43) d_Mo_outSet_16 (by decide) ?_
      refine E_iln 2 d_Mo_outSet_18 rfl rfl ?_
      refine E_iadd d_Mo_outSet_19 ?_
      obtain ⟨v3, ev3, hq⟩ := bd hq
      refine E_ra d_Mo_outSet_20 ev3 ?_
      refine E_ic (v := 1) d_Mo_outSet_21 (by decide) ?_
      refine E_jne (tgt := 31) d_Mo_outSet_22 (by decide) (fun c => ?_) (fun c => ?_)
      · rw [if_neg c] at hq
        refine E_inc (v := 1) (ls' := [(2, .int (x2 + 1)), (0, .ref a0), (1, .int x1)]) 2 d_Mo_outSet_31 rfl (Nat.le_of_ble_eq_true rfl) (by decide) rfl ?_
        refine E_goto (tgt := 4) d_Mo_outSet_34 (by decide) ?_
        exact E_sub (ks := [1, 2, 0]) rfl <| ih _ _ _ _ _ hq
      · rw [if_pos c] at hq
        refine E_iln 1 d_Mo_outSet_25 rfl rfl ?_
        refine E_ic (v := 1) d_Mo_outSet_26 (by decide) ?_
        refine E_iln 2 d_Mo_outSet_27 rfl rfl ?_
        refine E_ishl d_Mo_outSet_28 ?_
        refine E_ior d_Mo_outSet_29 ?_
        refine E_isn (ls' := [(1, .int (x1 ||| (jshl 1 x2))), (0, .ref a0), (2, .int x2)]) d_Mo_outSet_30 (Nat.le_of_ble_eq_true rfl) rfl ?_
        refine E_inc (v := 1) (ls' := [(2, .int (x2 + 1)), (1, .int (x1 ||| (jshl 1 x2))), (0, .ref a0)]) 2 d_Mo_outSet_31 rfl (Nat.le_of_ble_eq_true rfl) (by decide) rfl ?_
        refine E_goto (tgt := 4) d_Mo_outSet_34 (by decide) ?_
        exact E_sub (ks := [2, 1, 0]) rfl <| ih _ _ _ _ _ hq
def f_Mo_outSet (a0 : Nat) (h : PH) : Option (Int32 × PH) :=
  f_Mo_outSet_4 FU a0 0 0 h
theorem t_Mo_outSet {d : Nat} (hd : 0 ≤ d) {a0 : Nat} {h : PH} {r : Int32 × PH} (hq : f_Mo_outSet a0 h = some r) : E d 0 0 m_Mo_outSet 0 [(0, .ref a0)] [] h (PI r) := by
  unfold f_Mo_outSet at hq
  refine E_ic (v := 0) d_Mo_outSet_0 (by decide) ?_
  refine E_isn (ls' := [(1, .int 0), (0, .ref a0)]) d_Mo_outSet_1 (Nat.le_of_ble_eq_true rfl) rfl ?_
  refine E_ic (v := 0) d_Mo_outSet_2 (by decide) ?_
  refine E_isn (ls' := [(2, .int 0), (1, .int 0), (0, .ref a0)]) d_Mo_outSet_3 (Nat.le_of_ble_eq_true rfl) rfl ?_
  exact E_sub (ks := [2, 1, 0]) rfl <| t_Mo_outSet_4 (by omega) _ _ _ _ _ _ hq
def f_Mo_onesOf_4 : Nat → Int32 → Int32 → PH → Option (Int32 × PH)
  | 0, _, _, _ => none
  | n + 1, x2, x3, h =>
    if x3 = 0 then
      some (x2, h)
    else
      f_Mo_onesOf_4 n (x2 + 1) (x3 &&& (x3 - 1)) h
theorem t_Mo_onesOf_4 {d : Nat} (hd : 0 ≤ d) : ∀ (n : Nat) (x2 : Int32) (x3 : Int32) (h : PH) (r : Int32 × PH), f_Mo_onesOf_4 n x2 x3 h = some r → E d 0 0 m_Mo_onesOf 4 [(2, .int x2), (3, .int x3)] [] h (PI r) := by
  intro n
  induction n with
  | zero => intro x2 x3 h r hq; rw [f_Mo_onesOf_4] at hq; cases hq
  | succ n ih =>
    intro x2 x3 h r hq
    rw [f_Mo_onesOf_4] at hq
    refine E_iln 1 d_Mo_onesOf_4 rfl rfl ?_
    refine E_zeq (tgt := 21) d_Mo_onesOf_5 (by decide) (fun c => ?_) (fun c => ?_)
    · rw [if_pos c] at hq
      refine E_iln 0 d_Mo_onesOf_21 rfl rfl ?_
      exact E_rI d_Mo_onesOf_22 rfl hq
    · rw [if_neg c] at hq
      refine E_iln 0 d_Mo_onesOf_8 rfl rfl ?_
      refine E_ic (v := 1) d_Mo_onesOf_9 (by decide) ?_
      refine E_iadd d_Mo_onesOf_10 ?_
      refine E_isn (ls' := [(2, .int (x2 + 1)), (3, .int x3)]) d_Mo_onesOf_11 (Nat.le_of_ble_eq_true rfl) rfl ?_
      refine E_iln 1 d_Mo_onesOf_12 rfl rfl ?_
      refine E_iln 1 d_Mo_onesOf_13 rfl rfl ?_
      refine E_ic (v := 1) d_Mo_onesOf_14 (by decide) ?_
      refine E_isub d_Mo_onesOf_15 ?_
      refine E_iand d_Mo_onesOf_16 ?_
      refine E_isn (ls' := [(3, .int (x3 &&& (x3 - 1))), (2, .int (x2 + 1))]) d_Mo_onesOf_17 (Nat.le_of_ble_eq_true rfl) rfl ?_
      refine E_goto (tgt := 4) d_Mo_onesOf_18 (by decide) ?_
      exact E_sub (ks := [1, 0]) rfl <| ih _ _ _ _ hq
def f_Mo_onesOf (a0 : Nat) (x1 : Int32) (h : PH) : Option (Int32 × PH) :=
  f_Mo_onesOf_4 FU 0 x1 h
theorem t_Mo_onesOf {d : Nat} (hd : 0 ≤ d) {a0 : Nat} {x1 : Int32} {h : PH} {r : Int32 × PH} (hq : f_Mo_onesOf a0 x1 h = some r) : E d 0 0 m_Mo_onesOf 0 [(0, .ref a0), (1, .int x1)] [] h (PI r) := by
  unfold f_Mo_onesOf at hq
  refine E_ic (v := 0) d_Mo_onesOf_0 (by decide) ?_
  refine E_isn (ls' := [(2, .int 0), (0, .ref a0), (1, .int x1)]) d_Mo_onesOf_1 (Nat.le_of_ble_eq_true rfl) rfl ?_
  refine E_iln 2 d_Mo_onesOf_2 rfl rfl ?_
  refine E_isn (ls' := [(3, .int x1), (2, .int 0), (0, .ref a0), (1, .int x1)]) d_Mo_onesOf_3 (Nat.le_of_ble_eq_true rfl) rfl ?_
  exact E_sub (ks := [1, 0]) rfl <| t_Mo_onesOf_4 (by omega) _ _ _ _ _ hq
def f_Mo_asks_159 (a0 : Nat) (x1 : Int32) (s0 : Int32) (s1 : Int32) (s2 : Nat) (h : PH) : Option (PH) :=
  (wrA h s2 s1 s0).bind fun h1 =>
  (ldR h1 9 a0 42).bind fun v2 =>
  (ldR h1 9 a0 37).bind fun v3 =>
  (rdA h1 v3 x1).bind fun v4 =>
  (isO h1 9 a0).bind fun _ =>
  (f_Mo_outSet a0  h1).bind fun p5 =>
  (isO p5.2 9 a0).bind fun _ =>
  (f_Mo_onesOf a0 (v4 &&& p5.1) p5.2).bind fun p7 =>
  (wrA p7.2 v2 9 p7.1).bind fun h9 =>
  some h9
theorem t_Mo_asks_159 {d : Nat} (hd : 1 ≤ d) {a0 : Nat} {x1 : Int32} {s0 : Int32} {s1 : Int32} {s2 : Nat} {h : PH} {r : PH} (hq : f_Mo_asks_159 a0 x1 s0 s1 s2 h = some r) : E d 0 0 m_Mo_asks 159 [(0, .ref a0), (1, .int x1)] [.int s0, .int s1, .ref s2] h (PV r) := by
  unfold f_Mo_asks_159 at hq
  obtain ⟨d, rfl⟩ : ∃ e, d = e + 1 := ⟨d - 1, by omega⟩
  obtain ⟨h1, eh1, hq⟩ := bd hq
  refine E_wa d_Mo_asks_159 eh1 ?_
  refine E_aln 0 d_Mo_asks_160 rfl rfl ?_
  obtain ⟨v2, ev2, hq⟩ := bd hq
  refine E_gR d_Mo_asks_161 lk_Mo_77 rfl ev2 ?_
  refine E_bi (v := 9) d_Mo_asks_164 (by decide) ?_
  refine E_aln 0 d_Mo_asks_166 rfl rfl ?_
  refine E_aln 0 d_Mo_asks_167 rfl rfl ?_
  obtain ⟨v3, ev3, hq⟩ := bd hq
  refine E_gR d_Mo_asks_168 lk_Mo_68 rfl ev3 ?_
  refine E_iln 1 d_Mo_asks_171 rfl rfl ?_
  obtain ⟨v4, ev4, hq⟩ := bd hq
  refine E_ra d_Mo_asks_172 ev4 ?_
  refine E_aln 0 d_Mo_asks_173 rfl rfl ?_
  obtain ⟨q6, eq6, hq⟩ := bd hq
  obtain ⟨p5, ep5, hq⟩ := bd hq
  refine E_cV0I d_Mo_asks_174 ck_Mo_342 rfl rfl eq6 (Nat.le_of_ble_eq_true rfl) (Nat.le_of_ble_eq_true rfl) (t_Mo_outSet (by omega) ep5) ?_
  refine E_iand d_Mo_asks_177 ?_
  obtain ⟨q8, eq8, hq⟩ := bd hq
  obtain ⟨p7, ep7, hq⟩ := bd hq
  refine E_cV1I d_Mo_asks_178 ck_Mo_345 rfl rfl eq8 (Nat.le_of_ble_eq_true rfl) (Nat.le_of_ble_eq_true rfl) (t_Mo_onesOf (by omega) ep7) ?_
  obtain ⟨h9, eh9, hq⟩ := bd hq
  refine E_wa d_Mo_asks_181 eh9 ?_
  exact E_rV d_Mo_asks_182 rfl hq
def f_Mo_asks_134 (a0 : Nat) (x1 : Int32) (x2 : Int32) (s0 : Int32) (s1 : Int32) (s2 : Nat) (h : PH) : Option (PH) :=
  (wrA h s2 s1 s0).bind fun h1 =>
  (ldR h1 9 a0 42).bind fun v2 =>
  if x2 = (-1) then
    f_Mo_asks_159 a0 x1 0 8 v2 h1
  else
    (ldR h1 9 a0 1).bind fun v3 =>
    (rdA h1 v3 (73 + x2)).bind fun v4 =>
    f_Mo_asks_159 a0 x1 v4 8 v2 h1
theorem t_Mo_asks_134 {d : Nat} (hd : 1 ≤ d) {a0 : Nat} {x1 : Int32} {x2 : Int32} {s0 : Int32} {s1 : Int32} {s2 : Nat} {h : PH} {r : PH} (hq : f_Mo_asks_134 a0 x1 x2 s0 s1 s2 h = some r) : E d 0 0 m_Mo_asks 134 [(0, .ref a0), (1, .int x1), (2, .int x2)] [.int s0, .int s1, .ref s2] h (PV r) := by
  unfold f_Mo_asks_134 at hq
  obtain ⟨d, rfl⟩ : ∃ e, d = e + 1 := ⟨d - 1, by omega⟩
  obtain ⟨h1, eh1, hq⟩ := bd hq
  refine E_wa d_Mo_asks_134 eh1 ?_
  refine E_aln 0 d_Mo_asks_135 rfl rfl ?_
  obtain ⟨v2, ev2, hq⟩ := bd hq
  refine E_gR d_Mo_asks_136 lk_Mo_77 rfl ev2 ?_
  refine E_bi (v := 8) d_Mo_asks_139 (by decide) ?_
  refine E_iln 2 d_Mo_asks_141 rfl rfl ?_
  refine E_ic (v := (-1)) d_Mo_asks_142 (by decide) ?_
  refine E_jne (tgt := 150) d_Mo_asks_143 (by decide) (fun c => ?_) (fun c => ?_)
  · rw [if_neg c] at hq
    refine E_aln 0 d_Mo_asks_150 rfl rfl ?_
    obtain ⟨v3, ev3, hq⟩ := bd hq
    refine E_gR d_Mo_asks_151 lk_Mo_7 rfl ev3 ?_
    refine E_bi (v := 73) d_Mo_asks_154 (by decide) ?_
    refine E_iln 2 d_Mo_asks_156 rfl rfl ?_
    refine E_iadd d_Mo_asks_157 ?_
    obtain ⟨v4, ev4, hq⟩ := bd hq
    refine E_ra d_Mo_asks_158 ev4 ?_
    exact E_sub (ks := [0, 1]) rfl <| t_Mo_asks_159 (by omega) hq
  · rw [if_pos c] at hq
    refine E_ic (v := 0) d_Mo_asks_146 (by decide) ?_
    refine E_goto (tgt := 159) d_Mo_asks_147 (by decide) ?_
    exact E_sub (ks := [0, 1]) rfl <| t_Mo_asks_159 (by omega) hq
def f_Mo_asks_112 (a0 : Nat) (x1 : Int32) (x2 : Int32) (s0 : Int32) (s1 : Int32) (s2 : Nat) (h : PH) : Option (PH) :=
  (wrA h s2 s1 s0).bind fun h1 =>
  (ldR h1 9 a0 42).bind fun v2 =>
  if x2 = (-1) then
    f_Mo_asks_134 a0 x1 x2 0 7 v2 h1
  else
    (ldR h1 9 a0 11).bind fun v3 =>
    (rdA h1 v3 x2).bind fun v4 =>
    f_Mo_asks_134 a0 x1 x2 v4 7 v2 h1
theorem t_Mo_asks_112 {d : Nat} (hd : 1 ≤ d) {a0 : Nat} {x1 : Int32} {x2 : Int32} {s0 : Int32} {s1 : Int32} {s2 : Nat} {h : PH} {r : PH} (hq : f_Mo_asks_112 a0 x1 x2 s0 s1 s2 h = some r) : E d 0 0 m_Mo_asks 112 [(0, .ref a0), (1, .int x1), (2, .int x2)] [.int s0, .int s1, .ref s2] h (PV r) := by
  unfold f_Mo_asks_112 at hq
  obtain ⟨d, rfl⟩ : ∃ e, d = e + 1 := ⟨d - 1, by omega⟩
  obtain ⟨h1, eh1, hq⟩ := bd hq
  refine E_wa d_Mo_asks_112 eh1 ?_
  refine E_aln 0 d_Mo_asks_113 rfl rfl ?_
  obtain ⟨v2, ev2, hq⟩ := bd hq
  refine E_gR d_Mo_asks_114 lk_Mo_77 rfl ev2 ?_
  refine E_bi (v := 7) d_Mo_asks_117 (by decide) ?_
  refine E_iln 2 d_Mo_asks_119 rfl rfl ?_
  refine E_ic (v := (-1)) d_Mo_asks_120 (by decide) ?_
  refine E_jne (tgt := 128) d_Mo_asks_121 (by decide) (fun c => ?_) (fun c => ?_)
  · rw [if_neg c] at hq
    refine E_aln 0 d_Mo_asks_128 rfl rfl ?_
    obtain ⟨v3, ev3, hq⟩ := bd hq
    refine E_gR d_Mo_asks_129 lk_Mo_28 rfl ev3 ?_
    refine E_iln 2 d_Mo_asks_132 rfl rfl ?_
    obtain ⟨v4, ev4, hq⟩ := bd hq
    refine E_ra d_Mo_asks_133 ev4 ?_
    exact t_Mo_asks_134 (by omega) hq
  · rw [if_pos c] at hq
    refine E_ic (v := 0) d_Mo_asks_124 (by decide) ?_
    refine E_goto (tgt := 134) d_Mo_asks_125 (by decide) ?_
    exact t_Mo_asks_134 (by omega) hq
def f_Mo_asks (a0 : Nat) (x1 : Int32) (x2 : Int32) (h : PH) : Option (PH) :=
  (ldR h 9 a0 42).bind fun v1 =>
  (ldR h 9 a0 8).bind fun v2 =>
  (rdA h v2 x1).bind fun v3 =>
  (wrA h v1 0 v3).bind fun h4 =>
  (ldR h4 9 a0 42).bind fun v5 =>
  (ldR h4 9 a0 9).bind fun v6 =>
  (rdA h4 v6 x1).bind fun v7 =>
  (wrA h4 v5 1 v7).bind fun h8 =>
  (ldR h8 9 a0 42).bind fun v9 =>
  (ldR h8 9 a0 1).bind fun v10 =>
  (rdA h8 v10 (19 + x1)).bind fun v11 =>
  (wrA h8 v9 2 v11).bind fun h12 =>
  (ldR h12 9 a0 42).bind fun v13 =>
  (ldR h12 9 a0 1).bind fun v14 =>
  (rdA h12 v14 (7 + x1)).bind fun v15 =>
  (wrA h12 v13 3 v15).bind fun h16 =>
  (ldR h16 9 a0 42).bind fun v17 =>
  (ldR h16 9 a0 1).bind fun v18 =>
  (rdA h16 v18 0).bind fun v19 =>
  (rmI v19 24).bind fun v20 =>
  (wrA h16 v17 4 v20).bind fun h21 =>
  (ldR h21 9 a0 42).bind fun v22 =>
  (ldR h21 9 a0 1).bind fun v23 =>
  (rdA h21 v23 (31 + x1)).bind fun v24 =>
  (isO h21 9 a0).bind fun _ =>
  (f_Mo_greater a0 0 (v24 - 1) h21).bind fun p25 =>
  (wrA p25.2 v22 5 p25.1).bind fun h27 =>
  (ldR h27 9 a0 42).bind fun v28 =>
  if x2 = (-1) then
    f_Mo_asks_112 a0 x1 x2 0 6 v28 h27
  else
    (ldR h27 9 a0 10).bind fun v29 =>
    (rdA h27 v29 x2).bind fun v30 =>
    f_Mo_asks_112 a0 x1 x2 v30 6 v28 h27
theorem t_Mo_asks {d : Nat} (hd : 1 ≤ d) {a0 : Nat} {x1 : Int32} {x2 : Int32} {h : PH} {r : PH} (hq : f_Mo_asks a0 x1 x2 h = some r) : E d 0 0 m_Mo_asks 0 [(0, .ref a0), (1, .int x1), (2, .int x2)] [] h (PV r) := by
  unfold f_Mo_asks at hq
  obtain ⟨d, rfl⟩ : ∃ e, d = e + 1 := ⟨d - 1, by omega⟩
  refine E_aln 0 d_Mo_asks_0 rfl rfl ?_
  obtain ⟨v1, ev1, hq⟩ := bd hq
  refine E_gR d_Mo_asks_1 lk_Mo_77 rfl ev1 ?_
  refine E_ic (v := 0) d_Mo_asks_4 (by decide) ?_
  refine E_aln 0 d_Mo_asks_5 rfl rfl ?_
  obtain ⟨v2, ev2, hq⟩ := bd hq
  refine E_gR d_Mo_asks_6 lk_Mo_19 rfl ev2 ?_
  refine E_iln 1 d_Mo_asks_9 rfl rfl ?_
  obtain ⟨v3, ev3, hq⟩ := bd hq
  refine E_ra d_Mo_asks_10 ev3 ?_
  obtain ⟨h4, eh4, hq⟩ := bd hq
  refine E_wa d_Mo_asks_11 eh4 ?_
  refine E_aln 0 d_Mo_asks_12 rfl rfl ?_
  obtain ⟨v5, ev5, hq⟩ := bd hq
  refine E_gR d_Mo_asks_13 lk_Mo_77 rfl ev5 ?_
  refine E_ic (v := 1) d_Mo_asks_16 (by decide) ?_
  refine E_aln 0 d_Mo_asks_17 rfl rfl ?_
  obtain ⟨v6, ev6, hq⟩ := bd hq
  refine E_gR d_Mo_asks_18 lk_Mo_22 rfl ev6 ?_
  refine E_iln 1 d_Mo_asks_21 rfl rfl ?_
  obtain ⟨v7, ev7, hq⟩ := bd hq
  refine E_ra d_Mo_asks_22 ev7 ?_
  obtain ⟨h8, eh8, hq⟩ := bd hq
  refine E_wa d_Mo_asks_23 eh8 ?_
  refine E_aln 0 d_Mo_asks_24 rfl rfl ?_
  obtain ⟨v9, ev9, hq⟩ := bd hq
  refine E_gR d_Mo_asks_25 lk_Mo_77 rfl ev9 ?_
  refine E_ic (v := 2) d_Mo_asks_28 (by decide) ?_
  refine E_aln 0 d_Mo_asks_29 rfl rfl ?_
  obtain ⟨v10, ev10, hq⟩ := bd hq
  refine E_gR d_Mo_asks_30 lk_Mo_7 rfl ev10 ?_
  refine E_bi (v := 19) d_Mo_asks_33 (by decide) ?_
  refine E_iln 1 d_Mo_asks_35 rfl rfl ?_
  refine E_iadd d_Mo_asks_36 ?_
  obtain ⟨v11, ev11, hq⟩ := bd hq
  refine E_ra d_Mo_asks_37 ev11 ?_
  obtain ⟨h12, eh12, hq⟩ := bd hq
  refine E_wa d_Mo_asks_38 eh12 ?_
  refine E_aln 0 d_Mo_asks_39 rfl rfl ?_
  obtain ⟨v13, ev13, hq⟩ := bd hq
  refine E_gR d_Mo_asks_40 lk_Mo_77 rfl ev13 ?_
  refine E_ic (v := 3) d_Mo_asks_43 (by decide) ?_
  refine E_aln 0 d_Mo_asks_44 rfl rfl ?_
  obtain ⟨v14, ev14, hq⟩ := bd hq
  refine E_gR d_Mo_asks_45 lk_Mo_7 rfl ev14 ?_
  refine E_bi (v := 7) d_Mo_asks_48 (by decide) ?_
  refine E_iln 1 d_Mo_asks_50 rfl rfl ?_
  refine E_iadd d_Mo_asks_51 ?_
  obtain ⟨v15, ev15, hq⟩ := bd hq
  refine E_ra d_Mo_asks_52 ev15 ?_
  obtain ⟨h16, eh16, hq⟩ := bd hq
  refine E_wa d_Mo_asks_53 eh16 ?_
  refine E_aln 0 d_Mo_asks_54 rfl rfl ?_
  obtain ⟨v17, ev17, hq⟩ := bd hq
  refine E_gR d_Mo_asks_55 lk_Mo_77 rfl ev17 ?_
  refine E_ic (v := 4) d_Mo_asks_58 (by decide) ?_
  refine E_aln 0 d_Mo_asks_59 rfl rfl ?_
  obtain ⟨v18, ev18, hq⟩ := bd hq
  refine E_gR d_Mo_asks_60 lk_Mo_7 rfl ev18 ?_
  refine E_ic (v := 0) d_Mo_asks_63 (by decide) ?_
  obtain ⟨v19, ev19, hq⟩ := bd hq
  refine E_ra d_Mo_asks_64 ev19 ?_
  refine E_bi (v := 24) d_Mo_asks_65 (by decide) ?_
  obtain ⟨v20, ev20, hq⟩ := bd hq
  refine E_rm d_Mo_asks_67 ev20 ?_
  obtain ⟨h21, eh21, hq⟩ := bd hq
  refine E_wa d_Mo_asks_68 eh21 ?_
  refine E_aln 0 d_Mo_asks_69 rfl rfl ?_
  obtain ⟨v22, ev22, hq⟩ := bd hq
  refine E_gR d_Mo_asks_70 lk_Mo_77 rfl ev22 ?_
  refine E_ic (v := 5) d_Mo_asks_73 (by decide) ?_
  refine E_aln 0 d_Mo_asks_74 rfl rfl ?_
  refine E_ic (v := 0) d_Mo_asks_75 (by decide) ?_
  refine E_aln 0 d_Mo_asks_76 rfl rfl ?_
  obtain ⟨v23, ev23, hq⟩ := bd hq
  refine E_gR d_Mo_asks_77 lk_Mo_7 rfl ev23 ?_
  refine E_bi (v := 31) d_Mo_asks_80 (by decide) ?_
  refine E_iln 1 d_Mo_asks_82 rfl rfl ?_
  refine E_iadd d_Mo_asks_83 ?_
  obtain ⟨v24, ev24, hq⟩ := bd hq
  refine E_ra d_Mo_asks_84 ev24 ?_
  refine E_ic (v := 1) d_Mo_asks_85 (by decide) ?_
  refine E_isub d_Mo_asks_86 ?_
  obtain ⟨q26, eq26, hq⟩ := bd hq
  obtain ⟨p25, ep25, hq⟩ := bd hq
  refine E_cV2I d_Mo_asks_87 ck_Mo_339 rfl rfl eq26 (Nat.le_of_ble_eq_true rfl) (Nat.le_of_ble_eq_true rfl) (t_Mo_greater (by omega) ep25) ?_
  obtain ⟨h27, eh27, hq⟩ := bd hq
  refine E_wa d_Mo_asks_90 eh27 ?_
  refine E_aln 0 d_Mo_asks_91 rfl rfl ?_
  obtain ⟨v28, ev28, hq⟩ := bd hq
  refine E_gR d_Mo_asks_92 lk_Mo_77 rfl ev28 ?_
  refine E_bi (v := 6) d_Mo_asks_95 (by decide) ?_
  refine E_iln 2 d_Mo_asks_97 rfl rfl ?_
  refine E_ic (v := (-1)) d_Mo_asks_98 (by decide) ?_
  refine E_jne (tgt := 106) d_Mo_asks_99 (by decide) (fun c => ?_) (fun c => ?_)
  · rw [if_neg c] at hq
    refine E_aln 0 d_Mo_asks_106 rfl rfl ?_
    obtain ⟨v29, ev29, hq⟩ := bd hq
    refine E_gR d_Mo_asks_107 lk_Mo_25 rfl ev29 ?_
    refine E_iln 2 d_Mo_asks_110 rfl rfl ?_
    obtain ⟨v30, ev30, hq⟩ := bd hq
    refine E_ra d_Mo_asks_111 ev30 ?_
    exact t_Mo_asks_112 (by omega) hq
  · rw [if_pos c] at hq
    refine E_ic (v := 0) d_Mo_asks_102 (by decide) ?_
    refine E_goto (tgt := 112) d_Mo_asks_103 (by decide) ?_
    exact t_Mo_asks_112 (by omega) hq
def f_Mo_twoOf (a0 : Nat) (x1 : Int32) (x2 : Int32) (x3 : Int32) (h : PH) : Option (Int32 × PH) :=
  if x1 = 2 then
    some ((x2 + x3), h)
  else
    if x1 = 3 then
      some ((x2 - x3), h)
    else
      if x1 = 4 then
        some ((x2 * x3), h)
      else
        if x1 = 5 then
          (dvI x2 x3).bind fun v1 =>
          some (v1, h)
        else
          if x1 = 6 then
            if x3 ≤ x2 then
              some (0, h)
            else
              some (1, h)
          else
            if x1 = 7 then
              if x2 = x3 then
                some (1, h)
              else
                some (0, h)
            else
              if x1 = 8 then
                if x2 ≤ x3 then
                  some (0, h)
                else
                  some (1, h)
              else
                if x1 = 10 then
                  some ((x2 * x3), h)
                else
                  if (x2 + x3) ≤ 0 then
                    some (0, h)
                  else
                    some (1, h)
theorem t_Mo_twoOf {d : Nat} (hd : 0 ≤ d) {a0 : Nat} {x1 : Int32} {x2 : Int32} {x3 : Int32} {h : PH} {r : Int32 × PH} (hq : f_Mo_twoOf a0 x1 x2 x3 h = some r) : E d 0 0 m_Mo_twoOf 0 [(0, .ref a0), (1, .int x1), (2, .int x2), (3, .int x3)] [] h (PI r) := by
  unfold f_Mo_twoOf at hq
  refine E_iln 1 d_Mo_twoOf_0 rfl rfl ?_
  refine E_ic (v := 2) d_Mo_twoOf_1 (by decide) ?_
  refine E_jne (tgt := 9) d_Mo_twoOf_2 (by decide) (fun c => ?_) (fun c => ?_)
  · rw [if_neg c] at hq
    refine E_iln 1 d_Mo_twoOf_9 rfl rfl ?_
    refine E_ic (v := 3) d_Mo_twoOf_10 (by decide) ?_
    refine E_jne (tgt := 18) d_Mo_twoOf_11 (by decide) (fun c => ?_) (fun c => ?_)
    · rw [if_neg c] at hq
      refine E_iln 1 d_Mo_twoOf_18 rfl rfl ?_
      refine E_ic (v := 4) d_Mo_twoOf_19 (by decide) ?_
      refine E_jne (tgt := 27) d_Mo_twoOf_20 (by decide) (fun c => ?_) (fun c => ?_)
      · rw [if_neg c] at hq
        refine E_iln 1 d_Mo_twoOf_27 rfl rfl ?_
        refine E_ic (v := 5) d_Mo_twoOf_28 (by decide) ?_
        refine E_jne (tgt := 36) d_Mo_twoOf_29 (by decide) (fun c => ?_) (fun c => ?_)
        · rw [if_neg c] at hq
          refine E_iln 1 d_Mo_twoOf_36 rfl rfl ?_
          refine E_bi (v := 6) d_Mo_twoOf_37 (by decide) ?_
          refine E_jne (tgt := 53) d_Mo_twoOf_39 (by decide) (fun c => ?_) (fun c => ?_)
          · rw [if_neg c] at hq
            refine E_iln 1 d_Mo_twoOf_53 rfl rfl ?_
            refine E_bi (v := 7) d_Mo_twoOf_54 (by decide) ?_
            refine E_jne (tgt := 70) d_Mo_twoOf_56 (by decide) (fun c => ?_) (fun c => ?_)
            · rw [if_neg c] at hq
              refine E_iln 1 d_Mo_twoOf_70 rfl rfl ?_
              refine E_bi (v := 8) d_Mo_twoOf_71 (by decide) ?_
              refine E_jne (tgt := 87) d_Mo_twoOf_73 (by decide) (fun c => ?_) (fun c => ?_)
              · rw [if_neg c] at hq
                refine E_iln 1 d_Mo_twoOf_87 rfl rfl ?_
                refine E_bi (v := 10) d_Mo_twoOf_88 (by decide) ?_
                refine E_jne (tgt := 99) d_Mo_twoOf_90 (by decide) (fun c => ?_) (fun c => ?_)
                · rw [if_neg c] at hq
                  refine E_iln 2 d_Mo_twoOf_99 rfl rfl ?_
                  refine E_iln 3 d_Mo_twoOf_100 rfl rfl ?_
                  refine E_iadd d_Mo_twoOf_101 ?_
                  refine E_zle (tgt := 109) d_Mo_twoOf_102 (by decide) (fun c => ?_) (fun c => ?_)
                  · rw [if_pos c] at hq
                    refine E_ic (v := 0) d_Mo_twoOf_109 (by decide) ?_
                    exact E_rI d_Mo_twoOf_110 rfl hq
                  · rw [if_neg c] at hq
                    refine E_ic (v := 1) d_Mo_twoOf_105 (by decide) ?_
                    refine E_goto (tgt := 110) d_Mo_twoOf_106 (by decide) ?_
                    exact E_rI d_Mo_twoOf_110 rfl hq
                · rw [if_pos c] at hq
                  refine E_iln 2 d_Mo_twoOf_93 rfl rfl ?_
                  refine E_iln 3 d_Mo_twoOf_94 rfl rfl ?_
                  refine E_imul d_Mo_twoOf_95 ?_
                  refine E_goto (tgt := 110) d_Mo_twoOf_96 (by decide) ?_
                  exact E_rI d_Mo_twoOf_110 rfl hq
              · rw [if_pos c] at hq
                refine E_iln 2 d_Mo_twoOf_76 rfl rfl ?_
                refine E_iln 3 d_Mo_twoOf_77 rfl rfl ?_
                refine E_jle (tgt := 85) d_Mo_twoOf_78 (by decide) (fun c => ?_) (fun c => ?_)
                · rw [if_pos c] at hq
                  refine E_ic (v := 0) d_Mo_twoOf_85 (by decide) ?_
                  exact E_rI d_Mo_twoOf_86 rfl hq
                · rw [if_neg c] at hq
                  refine E_ic (v := 1) d_Mo_twoOf_81 (by decide) ?_
                  refine E_goto (tgt := 86) d_Mo_twoOf_82 (by decide) ?_
                  exact E_rI d_Mo_twoOf_86 rfl hq
            · rw [if_pos c] at hq
              refine E_iln 2 d_Mo_twoOf_59 rfl rfl ?_
              refine E_iln 3 d_Mo_twoOf_60 rfl rfl ?_
              refine E_jne (tgt := 68) d_Mo_twoOf_61 (by decide) (fun c => ?_) (fun c => ?_)
              · rw [if_neg c] at hq
                refine E_ic (v := 0) d_Mo_twoOf_68 (by decide) ?_
                exact E_rI d_Mo_twoOf_69 rfl hq
              · rw [if_pos c] at hq
                refine E_ic (v := 1) d_Mo_twoOf_64 (by decide) ?_
                refine E_goto (tgt := 69) d_Mo_twoOf_65 (by decide) ?_
                exact E_rI d_Mo_twoOf_69 rfl hq
          · rw [if_pos c] at hq
            refine E_iln 2 d_Mo_twoOf_42 rfl rfl ?_
            refine E_iln 3 d_Mo_twoOf_43 rfl rfl ?_
            refine E_jge (tgt := 51) d_Mo_twoOf_44 (by decide) (fun c => ?_) (fun c => ?_)
            · rw [if_pos c] at hq
              refine E_ic (v := 0) d_Mo_twoOf_51 (by decide) ?_
              exact E_rI d_Mo_twoOf_52 rfl hq
            · rw [if_neg c] at hq
              refine E_ic (v := 1) d_Mo_twoOf_47 (by decide) ?_
              refine E_goto (tgt := 52) d_Mo_twoOf_48 (by decide) ?_
              exact E_rI d_Mo_twoOf_52 rfl hq
        · rw [if_pos c] at hq
          refine E_iln 2 d_Mo_twoOf_32 rfl rfl ?_
          refine E_iln 3 d_Mo_twoOf_33 rfl rfl ?_
          obtain ⟨v1, ev1, hq⟩ := bd hq
          refine E_dv d_Mo_twoOf_34 ev1 ?_
          exact E_rI d_Mo_twoOf_35 rfl hq
      · rw [if_pos c] at hq
        refine E_iln 2 d_Mo_twoOf_23 rfl rfl ?_
        refine E_iln 3 d_Mo_twoOf_24 rfl rfl ?_
        refine E_imul d_Mo_twoOf_25 ?_
        exact E_rI d_Mo_twoOf_26 rfl hq
    · rw [if_pos c] at hq
      refine E_iln 2 d_Mo_twoOf_14 rfl rfl ?_
      refine E_iln 3 d_Mo_twoOf_15 rfl rfl ?_
      refine E_isub d_Mo_twoOf_16 ?_
      exact E_rI d_Mo_twoOf_17 rfl hq
  · rw [if_pos c] at hq
    refine E_iln 2 d_Mo_twoOf_5 rfl rfl ?_
    refine E_iln 3 d_Mo_twoOf_6 rfl rfl ?_
    refine E_iadd d_Mo_twoOf_7 ?_
    exact E_rI d_Mo_twoOf_8 rfl hq
def f_Mo_runs_83 (k12 : Nat → Int32 → Int32 → Int32 → Int32 → PH → Option (Int32 × PH)) (a0 : Nat) (x1 : Int32) (x3 : Int32) (x4 : Int32) (x5 : Int32) (s0 : Int32) (s1 : Int32) (s2 : Nat) (h : PH) : Option (Int32 × PH) :=
  (wrA h s2 s1 s0).bind fun h1 =>
  k12 a0 x1 x3 (x4 + 1) (x5 + 1) h1
theorem t_Mo_runs_83 {d : Nat} (hd : 1 ≤ d) {k12 : Nat → Int32 → Int32 → Int32 → Int32 → PH → Option (Int32 × PH)} (hk12 : ∀ (a0 : Nat) (x1 : Int32) (x3 : Int32) (x4 : Int32) (x5 : Int32) (h : PH) (r : Int32 × PH), k12 a0 x1 x3 x4 x5 h = some r → E d 0 0 m_Mo_runs 12 [(0, .ref a0), (1, .int x1), (3, .int x3), (4, .int x4), (5, .int x5)] [] h (PI r)) {a0 : Nat} {x1 : Int32} {x3 : Int32} {x4 : Int32} {x5 : Int32} {s0 : Int32} {s1 : Int32} {s2 : Nat} {h : PH} {r : Int32 × PH} (hq : f_Mo_runs_83 k12 a0 x1 x3 x4 x5 s0 s1 s2 h = some r) : E d 0 0 m_Mo_runs 83 [(0, .ref a0), (1, .int x1), (3, .int x3), (4, .int x4), (5, .int x5)] [.int s0, .int s1, .ref s2] h (PI r) := by
  unfold f_Mo_runs_83 at hq
  obtain ⟨d, rfl⟩ : ∃ e, d = e + 1 := ⟨d - 1, by omega⟩
  obtain ⟨h1, eh1, hq⟩ := bd hq
  refine E_wa d_Mo_runs_83 eh1 ?_
  refine E_il 3 d_Mo_runs_84 rfl ?_
  refine E_ic (v := 1) d_Mo_runs_86 (by decide) ?_
  refine E_iadd d_Mo_runs_87 ?_
  refine E_is (ls' := [(4, .int (x4 + 1)), (0, .ref a0), (1, .int x1), (3, .int x3), (5, .int x5)]) d_Mo_runs_88 (Nat.le_of_ble_eq_true rfl) rfl ?_
  refine E_goto (tgt := 170) d_Mo_runs_90 (by decide) ?_
  refine E_inc (v := 1) (ls' := [(5, .int (x5 + 1)), (4, .int (x4 + 1)), (0, .ref a0), (1, .int x1), (3, .int x3)]) 4 d_Mo_runs_170 rfl (Nat.le_of_ble_eq_true rfl) (by decide) rfl ?_
  refine E_goto (tgt := 12) d_Mo_runs_173 (by decide) ?_
  exact E_sub (ks := [2, 3, 4, 1, 0]) rfl <| hk12 _ _ _ _ _ _ _ hq
def f_Mo_runs_45 (k12 : Nat → Int32 → Int32 → Int32 → Int32 → PH → Option (Int32 × PH)) (a0 : Nat) (x1 : Int32) (x3 : Int32) (x4 : Int32) (x5 : Int32) (h : PH) : Option (Int32 × PH) :=
  (ldR h 9 a0 43).bind fun v1 =>
  (ldR h 9 a0 25).bind fun v2 =>
  (rdA h v2 x5).bind fun v3 =>
  if v3 = 0 then
    (ldR h 9 a0 26).bind fun v8 =>
    (rdA h v8 x5).bind fun v9 =>
    f_Mo_runs_83 k12 a0 x1 x3 x4 x5 v9 x4 v1 h
  else
    (ldR h 9 a0 42).bind fun v4 =>
    (ldR h 9 a0 26).bind fun v5 =>
    (rdA h v5 x5).bind fun v6 =>
    (rdA h v4 v6).bind fun v7 =>
    f_Mo_runs_83 k12 a0 x1 x3 x4 x5 v7 x4 v1 h
theorem t_Mo_runs_45 {d : Nat} (hd : 1 ≤ d) {k12 : Nat → Int32 → Int32 → Int32 → Int32 → PH → Option (Int32 × PH)} (hk12 : ∀ (a0 : Nat) (x1 : Int32) (x3 : Int32) (x4 : Int32) (x5 : Int32) (h : PH) (r : Int32 × PH), k12 a0 x1 x3 x4 x5 h = some r → E d 0 0 m_Mo_runs 12 [(0, .ref a0), (1, .int x1), (3, .int x3), (4, .int x4), (5, .int x5)] [] h (PI r)) {a0 : Nat} {x1 : Int32} {x3 : Int32} {x4 : Int32} {x5 : Int32} {h : PH} {r : Int32 × PH} (hq : f_Mo_runs_45 k12 a0 x1 x3 x4 x5 h = some r) : E d 0 0 m_Mo_runs 45 [(0, .ref a0), (1, .int x1), (3, .int x3), (4, .int x4), (5, .int x5)] [] h (PI r) := by
  unfold f_Mo_runs_45 at hq
  obtain ⟨d, rfl⟩ : ∃ e, d = e + 1 := ⟨d - 1, by omega⟩
  refine E_aln 0 d_Mo_runs_45 rfl rfl ?_
  obtain ⟨v1, ev1, hq⟩ := bd hq
  refine E_gR d_Mo_runs_46 lk_Mo_80 rfl ev1 ?_
  refine E_il 3 d_Mo_runs_49 rfl ?_
  refine E_aln 0 d_Mo_runs_51 rfl rfl ?_
  obtain ⟨v2, ev2, hq⟩ := bd hq
  refine E_gR d_Mo_runs_52 lk_Mo_55 rfl ev2 ?_
  refine E_il 4 d_Mo_runs_55 rfl ?_
  obtain ⟨v3, ev3, hq⟩ := bd hq
  refine E_ra d_Mo_runs_57 ev3 ?_
  refine E_zne (tgt := 71) d_Mo_runs_58 (by decide) (fun c => ?_) (fun c => ?_)
  · rw [if_neg c] at hq
    refine E_aln 0 d_Mo_runs_71 rfl rfl ?_
    obtain ⟨v4, ev4, hq⟩ := bd hq
    refine E_gR d_Mo_runs_72 lk_Mo_77 rfl ev4 ?_
    refine E_aln 0 d_Mo_runs_75 rfl rfl ?_
    obtain ⟨v5, ev5, hq⟩ := bd hq
    refine E_gR d_Mo_runs_76 lk_Mo_58 rfl ev5 ?_
    refine E_il 4 d_Mo_runs_79 rfl ?_
    obtain ⟨v6, ev6, hq⟩ := bd hq
    refine E_ra d_Mo_runs_81 ev6 ?_
    obtain ⟨v7, ev7, hq⟩ := bd hq
    refine E_ra d_Mo_runs_82 ev7 ?_
    exact t_Mo_runs_83 (by omega) hk12 hq
  · rw [if_pos c] at hq
    refine E_aln 0 d_Mo_runs_61 rfl rfl ?_
    obtain ⟨v8, ev8, hq⟩ := bd hq
    refine E_gR d_Mo_runs_62 lk_Mo_58 rfl ev8 ?_
    refine E_il 4 d_Mo_runs_65 rfl ?_
    obtain ⟨v9, ev9, hq⟩ := bd hq
    refine E_ra d_Mo_runs_67 ev9 ?_
    refine E_goto (tgt := 83) d_Mo_runs_68 (by decide) ?_
    exact t_Mo_runs_83 (by omega) hk12 hq
def f_Mo_runs_12 : Nat → Nat → Int32 → Int32 → Int32 → Int32 → PH → Option (Int32 × PH)
  | 0, _, _, _, _, _, _ => none
  | n + 1, a0, x1, x3, x4, x5, h =>
    if ((400 * x1) + x3) ≤ x5 then
      (ldR h 9 a0 43).bind fun v1 =>
      (rdA h v1 0).bind fun v2 =>
      some (v2, h)
    else
      (ldR h 9 a0 25).bind fun v3 =>
      (rdA h v3 x5).bind fun v4 =>
      if v4 = 0 then
        f_Mo_runs_45 (fun a0 x1 x3 x4 x5 h => f_Mo_runs_12 n a0 x1 x3 x4 x5 h) a0 x1 x3 x4 x5 h
      else
        (ldR h 9 a0 25).bind fun v5 =>
        (rdA h v5 x5).bind fun v6 =>
        if v6 = 1 then
          f_Mo_runs_45 (fun a0 x1 x3 x4 x5 h => f_Mo_runs_12 n a0 x1 x3 x4 x5 h) a0 x1 x3 x4 x5 h
        else
          (ldR h 9 a0 25).bind fun v7 =>
          (rdA h v7 x5).bind fun v8 =>
          if v8 = 9 then
            (ldR h 9 a0 43).bind fun v19 =>
            (ldR h 9 a0 43).bind fun v20 =>
            (rdA h v20 (x4 - 1)).bind fun v21 =>
            (wrA h v19 (x4 - 1) (1 - v21)).bind fun h22 =>
            f_Mo_runs_12 n a0 x1 x3 x4 (x5 + 1) h22
          else
            (ldR h 9 a0 43).bind fun v9 =>
            (ldR h 9 a0 25).bind fun v10 =>
            (rdA h v10 x5).bind fun v11 =>
            (ldR h 9 a0 43).bind fun v12 =>
            (rdA h v12 ((x4 - 1) - 1)).bind fun v13 =>
            (ldR h 9 a0 43).bind fun v14 =>
            (rdA h v14 (x4 - 1)).bind fun v15 =>
            (isO h 9 a0).bind fun _ =>
            (f_Mo_twoOf a0 v11 v13 v15 h).bind fun p16 =>
            (wrA p16.2 v9 ((x4 - 1) - 1) p16.1).bind fun h18 =>
            f_Mo_runs_12 n a0 x1 x3 (x4 - 1) (x5 + 1) h18
theorem t_Mo_runs_12 {d : Nat} (hd : 1 ≤ d) : ∀ (n : Nat) (a0 : Nat) (x1 : Int32) (x3 : Int32) (x4 : Int32) (x5 : Int32) (h : PH) (r : Int32 × PH), f_Mo_runs_12 n a0 x1 x3 x4 x5 h = some r → E d 0 0 m_Mo_runs 12 [(0, .ref a0), (1, .int x1), (3, .int x3), (4, .int x4), (5, .int x5)] [] h (PI r) := by
  intro n
  induction n with
  | zero => intro a0 x1 x3 x4 x5 h r hq; rw [f_Mo_runs_12] at hq; cases hq
  | succ n ih =>
    intro a0 x1 x3 x4 x5 h r hq
    rw [f_Mo_runs_12] at hq
    obtain ⟨d, rfl⟩ : ∃ e, d = e + 1 := ⟨d - 1, by omega⟩
    refine E_il 4 d_Mo_runs_12 rfl ?_
    refine E_si (v := 400) d_Mo_runs_14 (by decide) ?_
    refine E_iln 1 d_Mo_runs_17 rfl rfl ?_
    refine E_imul d_Mo_runs_18 ?_
    refine E_iln 2 d_Mo_runs_19 rfl rfl ?_
    refine E_iadd d_Mo_runs_20 ?_
    refine E_jge (tgt := 176) d_Mo_runs_21 (by decide) (fun c => ?_) (fun c => ?_)
    · rw [if_pos c] at hq
      refine E_aln 0 d_Mo_runs_176 rfl rfl ?_
      obtain ⟨v1, ev1, hq⟩ := bd hq
      refine E_gR d_Mo_runs_177 lk_Mo_80 rfl ev1 ?_
      refine E_ic (v := 0) d_Mo_runs_180 (by decide) ?_
      obtain ⟨v2, ev2, hq⟩ := bd hq
      refine E_ra d_Mo_runs_181 ev2 ?_
      exact E_rI d_Mo_runs_182 rfl hq
    · rw [if_neg c] at hq
      refine E_aln 0 d_Mo_runs_24 rfl rfl ?_
      obtain ⟨v3, ev3, hq⟩ := bd hq
      refine E_gR d_Mo_runs_25 lk_Mo_55 rfl ev3 ?_
      refine E_il 4 d_Mo_runs_28 rfl ?_
      obtain ⟨v4, ev4, hq⟩ := bd hq
      refine E_ra d_Mo_runs_30 ev4 ?_
      refine E_zeq (tgt := 45) d_Mo_runs_31 (by decide) (fun c => ?_) (fun c => ?_)
      · rw [if_pos c] at hq
        exact t_Mo_runs_45 (by omega) ih hq
      · rw [if_neg c] at hq
        refine E_aln 0 d_Mo_runs_34 rfl rfl ?_
        obtain ⟨v5, ev5, hq⟩ := bd hq
        refine E_gR d_Mo_runs_35 lk_Mo_55 rfl ev5 ?_
        refine E_il 4 d_Mo_runs_38 rfl ?_
        obtain ⟨v6, ev6, hq⟩ := bd hq
        refine E_ra d_Mo_runs_40 ev6 ?_
        refine E_ic (v := 1) d_Mo_runs_41 (by decide) ?_
        refine E_jne (tgt := 93) d_Mo_runs_42 (by decide) (fun c => ?_) (fun c => ?_)
        · rw [if_neg c] at hq
          refine E_aln 0 d_Mo_runs_93 rfl rfl ?_
          obtain ⟨v7, ev7, hq⟩ := bd hq
          refine E_gR d_Mo_runs_94 lk_Mo_55 rfl ev7 ?_
          refine E_il 4 d_Mo_runs_97 rfl ?_
          obtain ⟨v8, ev8, hq⟩ := bd hq
          refine E_ra d_Mo_runs_99 ev8 ?_
          refine E_bi (v := 9) d_Mo_runs_100 (by decide) ?_
          refine E_jne (tgt := 128) d_Mo_runs_102 (by decide) (fun c => ?_) (fun c => ?_)
          · rw [if_neg c] at hq
            refine E_il 3 d_Mo_runs_128 rfl ?_
            refine E_ic (v := 1) d_Mo_runs_130 (by decide) ?_
            refine E_isub d_Mo_runs_131 ?_
            refine E_is (ls' := [(4, .int (x4 - 1)), (0, .ref a0), (1, .int x1), (3, .int x3), (5, .int x5)]) d_Mo_runs_132 (Nat.le_of_ble_eq_true rfl) rfl ?_
            refine E_aln 1 d_Mo_runs_134 rfl rfl ?_
            obtain ⟨v9, ev9, hq⟩ := bd hq
            refine E_gR d_Mo_runs_135 lk_Mo_80 rfl ev9 ?_
            refine E_il 0 d_Mo_runs_138 rfl ?_
            refine E_ic (v := 1) d_Mo_runs_140 (by decide) ?_
            refine E_isub d_Mo_runs_141 ?_
            refine E_aln 1 d_Mo_runs_142 rfl rfl ?_
            refine E_aln 1 d_Mo_runs_143 rfl rfl ?_
            obtain ⟨v10, ev10, hq⟩ := bd hq
            refine E_gR d_Mo_runs_144 lk_Mo_55 rfl ev10 ?_
            refine E_il 4 d_Mo_runs_147 rfl ?_
            obtain ⟨v11, ev11, hq⟩ := bd hq
            refine E_ra d_Mo_runs_149 ev11 ?_
            refine E_aln 1 d_Mo_runs_150 rfl rfl ?_
            obtain ⟨v12, ev12, hq⟩ := bd hq
            refine E_gR d_Mo_runs_151 lk_Mo_80 rfl ev12 ?_
            refine E_il 0 d_Mo_runs_154 rfl ?_
            refine E_ic (v := 1) d_Mo_runs_156 (by decide) ?_
            refine E_isub d_Mo_runs_157 ?_
            obtain ⟨v13, ev13, hq⟩ := bd hq
            refine E_ra d_Mo_runs_158 ev13 ?_
            refine E_aln 1 d_Mo_runs_159 rfl rfl ?_
            obtain ⟨v14, ev14, hq⟩ := bd hq
            refine E_gR d_Mo_runs_160 lk_Mo_80 rfl ev14 ?_
            refine E_il 0 d_Mo_runs_163 rfl ?_
            obtain ⟨v15, ev15, hq⟩ := bd hq
            refine E_ra d_Mo_runs_165 ev15 ?_
            obtain ⟨q17, eq17, hq⟩ := bd hq
            obtain ⟨p16, ep16, hq⟩ := bd hq
            refine E_cV3I d_Mo_runs_166 ck_Mo_333 rfl rfl eq17 (Nat.le_of_ble_eq_true rfl) (Nat.le_of_ble_eq_true rfl) (t_Mo_twoOf (by omega) ep16) ?_
            obtain ⟨h18, eh18, hq⟩ := bd hq
            refine E_wa d_Mo_runs_169 eh18 ?_
            refine E_inc (v := 1) (ls' := [(5, .int (x5 + 1)), (4, .int (x4 - 1)), (0, .ref a0), (1, .int x1), (3, .int x3)]) 4 d_Mo_runs_170 rfl (Nat.le_of_ble_eq_true rfl) (by decide) rfl ?_
            refine E_goto (tgt := 12) d_Mo_runs_173 (by decide) ?_
            exact E_sub (ks := [2, 3, 4, 1, 0]) rfl <| ih _ _ _ _ _ _ _ hq
          · rw [if_pos c] at hq
            refine E_aln 0 d_Mo_runs_105 rfl rfl ?_
            obtain ⟨v19, ev19, hq⟩ := bd hq
            refine E_gR d_Mo_runs_106 lk_Mo_80 rfl ev19 ?_
            refine E_il 3 d_Mo_runs_109 rfl ?_
            refine E_ic (v := 1) d_Mo_runs_111 (by decide) ?_
            refine E_isub d_Mo_runs_112 ?_
            refine E_ic (v := 1) d_Mo_runs_113 (by decide) ?_
            refine E_aln 0 d_Mo_runs_114 rfl rfl ?_
            obtain ⟨v20, ev20, hq⟩ := bd hq
            refine E_gR d_Mo_runs_115 lk_Mo_80 rfl ev20 ?_
            refine E_il 3 d_Mo_runs_118 rfl ?_
            refine E_ic (v := 1) d_Mo_runs_120 (by decide) ?_
            refine E_isub d_Mo_runs_121 ?_
            obtain ⟨v21, ev21, hq⟩ := bd hq
            refine E_ra d_Mo_runs_122 ev21 ?_
            refine E_isub d_Mo_runs_123 ?_
            obtain ⟨h22, eh22, hq⟩ := bd hq
            refine E_wa d_Mo_runs_124 eh22 ?_
            refine E_goto (tgt := 170) d_Mo_runs_125 (by decide) ?_
            refine E_inc (v := 1) (ls' := [(5, .int (x5 + 1)), (0, .ref a0), (1, .int x1), (3, .int x3), (4, .int x4)]) 4 d_Mo_runs_170 rfl (Nat.le_of_ble_eq_true rfl) (by decide) rfl ?_
            refine E_goto (tgt := 12) d_Mo_runs_173 (by decide) ?_
            exact E_sub (ks := [1, 2, 3, 4, 0]) rfl <| ih _ _ _ _ _ _ _ hq
        · rw [if_pos c] at hq
          exact t_Mo_runs_45 (by omega) ih hq
def f_Mo_runs (a0 : Nat) (x1 : Int32) (x2 : Int32) (x3 : Int32) (h : PH) : Option (Int32 × PH) :=
  f_Mo_runs_12 FU a0 x1 x3 0 ((400 * x1) + x2) h
theorem t_Mo_runs {d : Nat} (hd : 1 ≤ d) {a0 : Nat} {x1 : Int32} {x2 : Int32} {x3 : Int32} {h : PH} {r : Int32 × PH} (hq : f_Mo_runs a0 x1 x2 x3 h = some r) : E d 0 0 m_Mo_runs 0 [(0, .ref a0), (1, .int x1), (2, .int x2), (3, .int x3)] [] h (PI r) := by
  unfold f_Mo_runs at hq
  obtain ⟨d, rfl⟩ : ∃ e, d = e + 1 := ⟨d - 1, by omega⟩
  refine E_ic (v := 0) d_Mo_runs_0 (by decide) ?_
  refine E_is (ls' := [(4, .int 0), (0, .ref a0), (1, .int x1), (2, .int x2), (3, .int x3)]) d_Mo_runs_1 (Nat.le_of_ble_eq_true rfl) rfl ?_
  refine E_si (v := 400) d_Mo_runs_3 (by decide) ?_
  refine E_iln 2 d_Mo_runs_6 rfl rfl ?_
  refine E_imul d_Mo_runs_7 ?_
  refine E_iln 3 d_Mo_runs_8 rfl rfl ?_
  refine E_iadd d_Mo_runs_9 ?_
  refine E_is (ls' := [(5, .int ((400 * x1) + x2)), (4, .int 0), (0, .ref a0), (1, .int x1), (2, .int x2), (3, .int x3)]) d_Mo_runs_10 (Nat.le_of_ble_eq_true rfl) rfl ?_
  exact E_sub (ks := [2, 3, 5, 1, 0]) rfl <| t_Mo_runs_12 (by omega) _ _ _ _ _ _ _ _ hq
def f_Mo_lineOf_2 : Nat → Nat → Int32 → Int32 → PH → Option (Int32 × PH)
  | 0, _, _, _, _ => none
  | n + 1, a0, x1, x2, h =>
    (ldR h 9 a0 20).bind fun v1 =>
    (rdA h v1 0).bind fun v2 =>
    if v2 ≤ x2 then
      some ((-1), h)
    else
      (ldR h 9 a0 21).bind fun v3 =>
      (rdA h v3 x2).bind fun v4 =>
      if v4 = x1 then
        (ldR h 9 a0 23).bind fun v5 =>
        (rdA h v5 x2).bind fun v6 =>
        (ldR h 9 a0 24).bind fun v7 =>
        (rdA h v7 x2).bind fun v8 =>
        if v6 = v8 then
          some (x2, h)
        else
          (ldR h 9 a0 23).bind fun v9 =>
          (rdA h v9 x2).bind fun v10 =>
          (ldR h 9 a0 24).bind fun v11 =>
          (rdA h v11 x2).bind fun v12 =>
          (isO h 9 a0).bind fun _ =>
          (f_Mo_runs a0 0 v10 v12 h).bind fun p13 =>
          if p13.1 = 0 then
            f_Mo_lineOf_2 n a0 x1 (x2 + 1) p13.2
          else
            some (x2, p13.2)
      else
        f_Mo_lineOf_2 n a0 x1 (x2 + 1) h
theorem t_Mo_lineOf_2 {d : Nat} (hd : 2 ≤ d) : ∀ (n : Nat) (a0 : Nat) (x1 : Int32) (x2 : Int32) (h : PH) (r : Int32 × PH), f_Mo_lineOf_2 n a0 x1 x2 h = some r → E d 0 0 m_Mo_lineOf 2 [(0, .ref a0), (1, .int x1), (2, .int x2)] [] h (PI r) := by
  intro n
  induction n with
  | zero => intro a0 x1 x2 h r hq; rw [f_Mo_lineOf_2] at hq; cases hq
  | succ n ih =>
    intro a0 x1 x2 h r hq
    rw [f_Mo_lineOf_2] at hq
    obtain ⟨d, rfl⟩ : ∃ e, d = e + 1 := ⟨d - 1, by omega⟩
    refine E_iln 2 d_Mo_lineOf_2 rfl rfl ?_
    refine E_aln 0 d_Mo_lineOf_3 rfl rfl ?_
    obtain ⟨v1, ev1, hq⟩ := bd hq
    refine E_gR d_Mo_lineOf_4 lk_Mo_40 rfl ev1 ?_
    refine E_ic (v := 0) d_Mo_lineOf_7 (by decide) ?_
    obtain ⟨v2, ev2, hq⟩ := bd hq
    refine E_ra d_Mo_lineOf_8 ev2 ?_
    refine E_jge (tgt := 65) d_Mo_lineOf_9 (by decide) (fun c => ?_) (fun c => ?_)
    · rw [if_pos c] at hq
      refine E_ic (v := (-1)) d_Mo_lineOf_65 (by decide) ?_
      exact E_rI d_Mo_lineOf_66 rfl hq
    · rw [if_neg c] at hq
      refine E_aln 0 d_Mo_lineOf_12 rfl rfl ?_
      obtain ⟨v3, ev3, hq⟩ := bd hq
      refine E_gR d_Mo_lineOf_13 lk_Mo_43 rfl ev3 ?_
      refine E_iln 2 d_Mo_lineOf_16 rfl rfl ?_
      obtain ⟨v4, ev4, hq⟩ := bd hq
      refine E_ra d_Mo_lineOf_17 ev4 ?_
      refine E_iln 1 d_Mo_lineOf_18 rfl rfl ?_
      refine E_jne (tgt := 59) d_Mo_lineOf_19 (by decide) (fun c => ?_) (fun c => ?_)
      · rw [if_neg c] at hq
        refine E_inc (v := 1) (ls' := [(2, .int (x2 + 1)), (0, .ref a0), (1, .int x1)]) 2 d_Mo_lineOf_59 rfl (Nat.le_of_ble_eq_true rfl) (by decide) rfl ?_
        refine E_goto (tgt := 2) d_Mo_lineOf_62 (by decide) ?_
        exact E_sub (ks := [1, 2, 0]) rfl <| ih _ _ _ _ _ hq
      · rw [if_pos c] at hq
        refine E_aln 0 d_Mo_lineOf_22 rfl rfl ?_
        obtain ⟨v5, ev5, hq⟩ := bd hq
        refine E_gR d_Mo_lineOf_23 lk_Mo_49 rfl ev5 ?_
        refine E_iln 2 d_Mo_lineOf_26 rfl rfl ?_
        obtain ⟨v6, ev6, hq⟩ := bd hq
        refine E_ra d_Mo_lineOf_27 ev6 ?_
        refine E_aln 0 d_Mo_lineOf_28 rfl rfl ?_
        obtain ⟨v7, ev7, hq⟩ := bd hq
        refine E_gR d_Mo_lineOf_29 lk_Mo_52 rfl ev7 ?_
        refine E_iln 2 d_Mo_lineOf_32 rfl rfl ?_
        obtain ⟨v8, ev8, hq⟩ := bd hq
        refine E_ra d_Mo_lineOf_33 ev8 ?_
        refine E_jeq (tgt := 57) d_Mo_lineOf_34 (by decide) (fun c => ?_) (fun c => ?_)
        · rw [if_pos c] at hq
          refine E_iln 2 d_Mo_lineOf_57 rfl rfl ?_
          exact E_rI d_Mo_lineOf_58 rfl hq
        · rw [if_neg c] at hq
          refine E_aln 0 d_Mo_lineOf_37 rfl rfl ?_
          refine E_ic (v := 0) d_Mo_lineOf_38 (by decide) ?_
          refine E_aln 0 d_Mo_lineOf_39 rfl rfl ?_
          obtain ⟨v9, ev9, hq⟩ := bd hq
          refine E_gR d_Mo_lineOf_40 lk_Mo_49 rfl ev9 ?_
          refine E_iln 2 d_Mo_lineOf_43 rfl rfl ?_
          obtain ⟨v10, ev10, hq⟩ := bd hq
          refine E_ra d_Mo_lineOf_44 ev10 ?_
          refine E_aln 0 d_Mo_lineOf_45 rfl rfl ?_
          obtain ⟨v11, ev11, hq⟩ := bd hq
          refine E_gR d_Mo_lineOf_46 lk_Mo_52 rfl ev11 ?_
          refine E_iln 2 d_Mo_lineOf_49 rfl rfl ?_
          obtain ⟨v12, ev12, hq⟩ := bd hq
          refine E_ra d_Mo_lineOf_50 ev12 ?_
          obtain ⟨q14, eq14, hq⟩ := bd hq
          obtain ⟨p13, ep13, hq⟩ := bd hq
          refine E_cV3I d_Mo_lineOf_51 ck_Mo_336 rfl rfl eq14 (Nat.le_of_ble_eq_true rfl) (Nat.le_of_ble_eq_true rfl) (t_Mo_runs (by omega) ep13) ?_
          refine E_zeq (tgt := 59) d_Mo_lineOf_54 (by decide) (fun c => ?_) (fun c => ?_)
          · rw [if_pos c] at hq
            refine E_inc (v := 1) (ls' := [(2, .int (x2 + 1)), (0, .ref a0), (1, .int x1)]) 2 d_Mo_lineOf_59 rfl (Nat.le_of_ble_eq_true rfl) (by decide) rfl ?_
            refine E_goto (tgt := 2) d_Mo_lineOf_62 (by decide) ?_
            exact E_sub (ks := [1, 2, 0]) rfl <| ih _ _ _ _ _ hq
          · rw [if_neg c] at hq
            refine E_iln 2 d_Mo_lineOf_57 rfl rfl ?_
            exact E_rI d_Mo_lineOf_58 rfl hq
def f_Mo_lineOf (a0 : Nat) (x1 : Int32) (h : PH) : Option (Int32 × PH) :=
  f_Mo_lineOf_2 FU a0 x1 0 h
theorem t_Mo_lineOf {d : Nat} (hd : 2 ≤ d) {a0 : Nat} {x1 : Int32} {h : PH} {r : Int32 × PH} (hq : f_Mo_lineOf a0 x1 h = some r) : E d 0 0 m_Mo_lineOf 0 [(0, .ref a0), (1, .int x1)] [] h (PI r) := by
  unfold f_Mo_lineOf at hq
  obtain ⟨d, rfl⟩ : ∃ e, d = e + 1 := ⟨d - 1, by omega⟩
  refine E_ic (v := 0) d_Mo_lineOf_0 (by decide) ?_
  refine E_isn (ls' := [(2, .int 0), (0, .ref a0), (1, .int x1)]) d_Mo_lineOf_1 (Nat.le_of_ble_eq_true rfl) rfl ?_
  exact E_sub (ks := [1, 2, 0]) rfl <| t_Mo_lineOf_2 (by omega) _ _ _ _ _ _ hq
def f_Mo_held (a0 : Nat) (x1 : Int32) (x2 : Int32) (x3 : Int32) (h : PH) : Option (Int32 × PH) :=
  if x2 ≤ x1 then
    if x1 ≤ x3 then
      some (x1, h)
    else
      some (x3, h)
  else
    some (x2, h)
theorem t_Mo_held {d : Nat} (hd : 0 ≤ d) {a0 : Nat} {x1 : Int32} {x2 : Int32} {x3 : Int32} {h : PH} {r : Int32 × PH} (hq : f_Mo_held a0 x1 x2 x3 h = some r) : E d 0 0 m_Mo_held 0 [(0, .ref a0), (1, .int x1), (2, .int x2), (3, .int x3)] [] h (PI r) := by
  unfold f_Mo_held at hq
  refine E_iln 1 d_Mo_held_0 rfl rfl ?_
  refine E_iln 2 d_Mo_held_1 rfl rfl ?_
  refine E_jge (tgt := 9) d_Mo_held_2 (by decide) (fun c => ?_) (fun c => ?_)
  · rw [if_pos c] at hq
    refine E_iln 1 d_Mo_held_9 rfl rfl ?_
    refine E_iln 3 d_Mo_held_10 rfl rfl ?_
    refine E_jle (tgt := 18) d_Mo_held_11 (by decide) (fun c => ?_) (fun c => ?_)
    · rw [if_pos c] at hq
      refine E_iln 1 d_Mo_held_18 rfl rfl ?_
      exact E_rI d_Mo_held_19 rfl hq
    · rw [if_neg c] at hq
      refine E_iln 3 d_Mo_held_14 rfl rfl ?_
      refine E_goto (tgt := 19) d_Mo_held_15 (by decide) ?_
      exact E_rI d_Mo_held_19 rfl hq
  · rw [if_neg c] at hq
    refine E_iln 2 d_Mo_held_5 rfl rfl ?_
    refine E_goto (tgt := 19) d_Mo_held_6 (by decide) ?_
    exact E_rI d_Mo_held_19 rfl hq
def f_Mo_lawTells_37 (x3 : Int32) (s0 : Int32) (s1 : Nat) (h : PH) : Option (Int32 × PH) :=
  (isO h 9 s1).bind fun _ =>
  (f_Mo_held s1 s0 0 x3 h).bind fun p1 =>
  some (p1.1, p1.2)
theorem t_Mo_lawTells_37 {d : Nat} (hd : 3 ≤ d) {x3 : Int32} {s0 : Int32} {s1 : Nat} {h : PH} {r : Int32 × PH} (hq : f_Mo_lawTells_37 x3 s0 s1 h = some r) : E d 0 0 m_Mo_lawTells 37 [(3, .int x3)] [.int s0, .ref s1] h (PI r) := by
  unfold f_Mo_lawTells_37 at hq
  obtain ⟨d, rfl⟩ : ∃ e, d = e + 1 := ⟨d - 1, by omega⟩
  refine E_ic (v := 0) d_Mo_lawTells_37 (by decide) ?_
  refine E_iln 0 d_Mo_lawTells_38 rfl rfl ?_
  obtain ⟨q2, eq2, hq⟩ := bd hq
  obtain ⟨p1, ep1, hq⟩ := bd hq
  refine E_cV3I d_Mo_lawTells_39 ck_Mo_351 rfl rfl eq2 (Nat.le_of_ble_eq_true rfl) (Nat.le_of_ble_eq_true rfl) (t_Mo_held (by omega) ep1) ?_
  exact E_rI d_Mo_lawTells_42 rfl hq
def f_Mo_lawTells (a0 : Nat) (x1 : Int32) (x2 : Int32) (x3 : Int32) (h : PH) : Option (Int32 × PH) :=
  (isO h 9 a0).bind fun _ =>
  (f_Mo_lineOf a0 x1 h).bind fun p1 =>
  if p1.1 = (-1) then
    f_Mo_lawTells_37 x3 x2 a0 p1.2
  else
    (ldR p1.2 9 a0 22).bind fun v3 =>
    (rdA p1.2 v3 p1.1).bind fun v4 =>
    (ldR p1.2 9 a0 23).bind fun v5 =>
    (rdA p1.2 v5 p1.1).bind fun v6 =>
    (isO p1.2 9 a0).bind fun _ =>
    (f_Mo_runs a0 0 v4 v6 p1.2).bind fun p7 =>
    f_Mo_lawTells_37 x3 p7.1 a0 p7.2
theorem t_Mo_lawTells {d : Nat} (hd : 3 ≤ d) {a0 : Nat} {x1 : Int32} {x2 : Int32} {x3 : Int32} {h : PH} {r : Int32 × PH} (hq : f_Mo_lawTells a0 x1 x2 x3 h = some r) : E d 0 0 m_Mo_lawTells 0 [(0, .ref a0), (1, .int x1), (2, .int x2), (3, .int x3)] [] h (PI r) := by
  unfold f_Mo_lawTells at hq
  obtain ⟨d, rfl⟩ : ∃ e, d = e + 1 := ⟨d - 1, by omega⟩
  refine E_aln 0 d_Mo_lawTells_0 rfl rfl ?_
  refine E_iln 1 d_Mo_lawTells_1 rfl rfl ?_
  obtain ⟨q2, eq2, hq⟩ := bd hq
  obtain ⟨p1, ep1, hq⟩ := bd hq
  refine E_cV1I d_Mo_lawTells_2 ck_Mo_348 rfl rfl eq2 (Nat.le_of_ble_eq_true rfl) (Nat.le_of_ble_eq_true rfl) (t_Mo_lineOf (by omega) ep1) ?_
  refine E_is (ls' := [(4, .int p1.1), (0, .ref a0), (1, .int x1), (2, .int x2), (3, .int x3)]) d_Mo_lawTells_5 (Nat.le_of_ble_eq_true rfl) rfl ?_
  refine E_aln 1 d_Mo_lawTells_7 rfl rfl ?_
  refine E_il 0 d_Mo_lawTells_8 rfl ?_
  refine E_ic (v := (-1)) d_Mo_lawTells_10 (by decide) ?_
  refine E_jne (tgt := 18) d_Mo_lawTells_11 (by decide) (fun c => ?_) (fun c => ?_)
  · rw [if_neg c] at hq
    refine E_aln 1 d_Mo_lawTells_18 rfl rfl ?_
    refine E_ic (v := 0) d_Mo_lawTells_19 (by decide) ?_
    refine E_aln 1 d_Mo_lawTells_20 rfl rfl ?_
    obtain ⟨v3, ev3, hq⟩ := bd hq
    refine E_gR d_Mo_lawTells_21 lk_Mo_46 rfl ev3 ?_
    refine E_il 0 d_Mo_lawTells_24 rfl ?_
    obtain ⟨v4, ev4, hq⟩ := bd hq
    refine E_ra d_Mo_lawTells_26 ev4 ?_
    refine E_aln 1 d_Mo_lawTells_27 rfl rfl ?_
    obtain ⟨v5, ev5, hq⟩ := bd hq
    refine E_gR d_Mo_lawTells_28 lk_Mo_49 rfl ev5 ?_
    refine E_il 0 d_Mo_lawTells_31 rfl ?_
    obtain ⟨v6, ev6, hq⟩ := bd hq
    refine E_ra d_Mo_lawTells_33 ev6 ?_
    obtain ⟨q8, eq8, hq⟩ := bd hq
    obtain ⟨p7, ep7, hq⟩ := bd hq
    refine E_cV3I d_Mo_lawTells_34 ck_Mo_336 rfl rfl eq8 (Nat.le_of_ble_eq_true rfl) (Nat.le_of_ble_eq_true rfl) (t_Mo_runs (by omega) ep7) ?_
    exact E_sub (ks := [4]) rfl <| t_Mo_lawTells_37 (by omega) hq
  · rw [if_pos c] at hq
    refine E_iln 3 d_Mo_lawTells_14 rfl rfl ?_
    refine E_goto (tgt := 37) d_Mo_lawTells_15 (by decide) ?_
    exact E_sub (ks := [4]) rfl <| t_Mo_lawTells_37 (by omega) hq
def f_Mo_rateOf (a0 : Nat) (x1 : Int32) (x2 : Int32) (h : PH) : Option (Int32 × PH) :=
  (isO h 9 a0).bind fun _ =>
  (f_Mo_asks a0 x1 x2 h).bind fun h1 =>
  (ldR h1 9 a0 8).bind fun v3 =>
  (rdA h1 v3 x1).bind fun v4 =>
  (isO h1 9 a0).bind fun _ =>
  (f_Mo_lawTells a0 1 (v4 + 1) 99 h1).bind fun p5 =>
  some (p5.1, p5.2)
theorem t_Mo_rateOf {d : Nat} (hd : 4 ≤ d) {a0 : Nat} {x1 : Int32} {x2 : Int32} {h : PH} {r : Int32 × PH} (hq : f_Mo_rateOf a0 x1 x2 h = some r) : E d 0 0 m_Mo_rateOf 0 [(0, .ref a0), (1, .int x1), (2, .int x2)] [] h (PI r) := by
  unfold f_Mo_rateOf at hq
  obtain ⟨d, rfl⟩ : ∃ e, d = e + 1 := ⟨d - 1, by omega⟩
  refine E_aln 0 d_Mo_rateOf_0 rfl rfl ?_
  refine E_iln 1 d_Mo_rateOf_1 rfl rfl ?_
  refine E_iln 2 d_Mo_rateOf_2 rfl rfl ?_
  obtain ⟨q2, eq2, hq⟩ := bd hq
  obtain ⟨h1, eh1, hq⟩ := bd hq
  refine E_cV2V d_Mo_rateOf_3 ck_Mo_354 rfl rfl eq2 (Nat.le_of_ble_eq_true rfl) (Nat.le_of_ble_eq_true rfl) (t_Mo_asks (by omega) eh1) ?_
  refine E_aln 0 d_Mo_rateOf_6 rfl rfl ?_
  refine E_ic (v := 1) d_Mo_rateOf_7 (by decide) ?_
  refine E_aln 0 d_Mo_rateOf_8 rfl rfl ?_
  obtain ⟨v3, ev3, hq⟩ := bd hq
  refine E_gR d_Mo_rateOf_9 lk_Mo_19 rfl ev3 ?_
  refine E_iln 1 d_Mo_rateOf_12 rfl rfl ?_
  obtain ⟨v4, ev4, hq⟩ := bd hq
  refine E_ra d_Mo_rateOf_13 ev4 ?_
  refine E_ic (v := 1) d_Mo_rateOf_14 (by decide) ?_
  refine E_iadd d_Mo_rateOf_15 ?_
  refine E_bi (v := 99) d_Mo_rateOf_16 (by decide) ?_
  obtain ⟨q6, eq6, hq⟩ := bd hq
  obtain ⟨p5, ep5, hq⟩ := bd hq
  refine E_cV3I d_Mo_rateOf_18 ck_Mo_357 rfl rfl eq6 (Nat.le_of_ble_eq_true rfl) (Nat.le_of_ble_eq_true rfl) (t_Mo_lawTells (by omega) ep5) ?_
  exact E_rI d_Mo_rateOf_21 rfl hq
def f_Mo_findOf (a0 : Nat) (x1 : Int32) (x2 : Int32) (h : PH) : Option (Int32 × PH) :=
  (isO h 9 a0).bind fun _ =>
  (f_Mo_asks a0 x1 x2 h).bind fun h1 =>
  (ldR h1 9 a0 10).bind fun v3 =>
  (rdA h1 v3 x2).bind fun v4 =>
  (isO h1 9 a0).bind fun _ =>
  (f_Mo_lawTells a0 2 (500 + (50 * v4)) 1000 h1).bind fun p5 =>
  some (p5.1, p5.2)
theorem t_Mo_findOf {d : Nat} (hd : 4 ≤ d) {a0 : Nat} {x1 : Int32} {x2 : Int32} {h : PH} {r : Int32 × PH} (hq : f_Mo_findOf a0 x1 x2 h = some r) : E d 0 0 m_Mo_findOf 0 [(0, .ref a0), (1, .int x1), (2, .int x2)] [] h (PI r) := by
  unfold f_Mo_findOf at hq
  obtain ⟨d, rfl⟩ : ∃ e, d = e + 1 := ⟨d - 1, by omega⟩
  refine E_aln 0 d_Mo_findOf_0 rfl rfl ?_
  refine E_iln 1 d_Mo_findOf_1 rfl rfl ?_
  refine E_iln 2 d_Mo_findOf_2 rfl rfl ?_
  obtain ⟨q2, eq2, hq⟩ := bd hq
  obtain ⟨h1, eh1, hq⟩ := bd hq
  refine E_cV2V d_Mo_findOf_3 ck_Mo_354 rfl rfl eq2 (Nat.le_of_ble_eq_true rfl) (Nat.le_of_ble_eq_true rfl) (t_Mo_asks (by omega) eh1) ?_
  refine E_aln 0 d_Mo_findOf_6 rfl rfl ?_
  refine E_ic (v := 2) d_Mo_findOf_7 (by decide) ?_
  refine E_si (v := 500) d_Mo_findOf_8 (by decide) ?_
  refine E_bi (v := 50) d_Mo_findOf_11 (by decide) ?_
  refine E_aln 0 d_Mo_findOf_13 rfl rfl ?_
  obtain ⟨v3, ev3, hq⟩ := bd hq
  refine E_gR d_Mo_findOf_14 lk_Mo_25 rfl ev3 ?_
  refine E_iln 2 d_Mo_findOf_17 rfl rfl ?_
  obtain ⟨v4, ev4, hq⟩ := bd hq
  refine E_ra d_Mo_findOf_18 ev4 ?_
  refine E_imul d_Mo_findOf_19 ?_
  refine E_iadd d_Mo_findOf_20 ?_
  refine E_si (v := 1000) d_Mo_findOf_21 (by decide) ?_
  obtain ⟨q6, eq6, hq⟩ := bd hq
  obtain ⟨p5, ep5, hq⟩ := bd hq
  refine E_cV3I d_Mo_findOf_24 ck_Mo_357 rfl rfl eq6 (Nat.le_of_ble_eq_true rfl) (Nat.le_of_ble_eq_true rfl) (t_Mo_lawTells (by omega) ep5) ?_
  exact E_rI d_Mo_findOf_27 rfl hq
def f_Mo_draw (a0 : Nat) (x1 : Int32) (h : PH) : Option (Int32 × PH) :=
  (ldR h 9 a0 1).bind fun v1 =>
  (ldR h 9 a0 1).bind fun v2 =>
  (rdA h v2 1).bind fun v3 =>
  (wrA h v1 1 ((1664525 * v3) + 1013904223)).bind fun h4 =>
  (ldR h4 9 a0 1).bind fun v5 =>
  (rdA h4 v5 1).bind fun v6 =>
  (rmI (jush v6 8) x1).bind fun v7 =>
  some (v7, h4)
theorem t_Mo_draw {d : Nat} (hd : 0 ≤ d) {a0 : Nat} {x1 : Int32} {h : PH} {r : Int32 × PH} (hq : f_Mo_draw a0 x1 h = some r) : E d 0 0 m_Mo_draw 0 [(0, .ref a0), (1, .int x1)] [] h (PI r) := by
  unfold f_Mo_draw at hq
  refine E_aln 0 d_Mo_draw_0 rfl rfl ?_
  obtain ⟨v1, ev1, hq⟩ := bd hq
  refine E_gR d_Mo_draw_1 lk_Mo_7 rfl ev1 ?_
  refine E_ic (v := 1) d_Mo_draw_4 (by decide) ?_
  refine E_ldc1 d_Mo_draw_5 kc_Mo_150 ?_
  refine E_aln 0 d_Mo_draw_7 rfl rfl ?_
  obtain ⟨v2, ev2, hq⟩ := bd hq
  refine E_gR d_Mo_draw_8 lk_Mo_7 rfl ev2 ?_
  refine E_ic (v := 1) d_Mo_draw_11 (by decide) ?_
  obtain ⟨v3, ev3, hq⟩ := bd hq
  refine E_ra d_Mo_draw_12 ev3 ?_
  refine E_imul d_Mo_draw_13 ?_
  refine E_ldc1 d_Mo_draw_14 kc_Mo_151 ?_
  refine E_iadd d_Mo_draw_16 ?_
  obtain ⟨h4, eh4, hq⟩ := bd hq
  refine E_wa d_Mo_draw_17 eh4 ?_
  refine E_aln 0 d_Mo_draw_18 rfl rfl ?_
  obtain ⟨v5, ev5, hq⟩ := bd hq
  refine E_gR d_Mo_draw_19 lk_Mo_7 rfl ev5 ?_
  refine E_ic (v := 1) d_Mo_draw_22 (by decide) ?_
  obtain ⟨v6, ev6, hq⟩ := bd hq
  refine E_ra d_Mo_draw_23 ev6 ?_
  refine E_bi (v := 8) d_Mo_draw_24 (by decide) ?_
  refine E_iushr d_Mo_draw_26 ?_
  refine E_iln 1 d_Mo_draw_27 rfl rfl ?_
  obtain ⟨v7, ev7, hq⟩ := bd hq
  refine E_rm d_Mo_draw_28 ev7 ?_
  exact E_rI d_Mo_draw_29 rfl hq
def f_Mo_lesser (a0 : Nat) (x1 : Int32) (x2 : Int32) (h : PH) : Option (Int32 × PH) :=
  if x2 ≤ x1 then
    some (x2, h)
  else
    some (x1, h)
theorem t_Mo_lesser {d : Nat} (hd : 0 ≤ d) {a0 : Nat} {x1 : Int32} {x2 : Int32} {h : PH} {r : Int32 × PH} (hq : f_Mo_lesser a0 x1 x2 h = some r) : E d 0 0 m_Mo_lesser 0 [(0, .ref a0), (1, .int x1), (2, .int x2)] [] h (PI r) := by
  unfold f_Mo_lesser at hq
  refine E_iln 1 d_Mo_lesser_0 rfl rfl ?_
  refine E_iln 2 d_Mo_lesser_1 rfl rfl ?_
  refine E_jge (tgt := 9) d_Mo_lesser_2 (by decide) (fun c => ?_) (fun c => ?_)
  · rw [if_pos c] at hq
    refine E_iln 2 d_Mo_lesser_9 rfl rfl ?_
    exact E_rI d_Mo_lesser_10 rfl hq
  · rw [if_neg c] at hq
    refine E_iln 1 d_Mo_lesser_5 rfl rfl ?_
    refine E_goto (tgt := 10) d_Mo_lesser_6 (by decide) ?_
    exact E_rI d_Mo_lesser_10 rfl hq
def f_Mo_notes (a0 : Nat) (x1 : Int32) (x2 : Int32) (x3 : Int32) (h : PH) : Option (PH) :=
  (ldI h 9 a0 5).bind fun v1 =>
  if v1 = 0 then
    (ldR h 9 a0 1).bind fun v2 =>
    (rdA h v2 2).bind fun v3 =>
    if v3 = 150 then
      some h
    else
      (ldR h 9 a0 1).bind fun v4 =>
      (rdA h v4 2).bind fun v5 =>
      (ldR h 9 a0 12).bind fun v6 =>
      (ldR h 9 a0 1).bind fun v7 =>
      (rdA h v7 0).bind fun v8 =>
      (wrA h v6 (4 * v5) v8).bind fun h9 =>
      (ldR h9 9 a0 12).bind fun v10 =>
      (wrA h9 v10 ((4 * v5) + 1) x1).bind fun h11 =>
      (ldR h11 9 a0 12).bind fun v12 =>
      (wrA h11 v12 ((4 * v5) + 2) x2).bind fun h13 =>
      (ldR h13 9 a0 12).bind fun v14 =>
      (wrA h13 v14 ((4 * v5) + 3) x3).bind fun h15 =>
      (ldR h15 9 a0 1).bind fun v16 =>
      (ldR h15 9 a0 1).bind fun v17 =>
      (rdA h15 v17 2).bind fun v18 =>
      (wrA h15 v16 2 (v18 + 1)).bind fun h19 =>
      some h19
  else
    some h
theorem t_Mo_notes {d : Nat} (hd : 0 ≤ d) {a0 : Nat} {x1 : Int32} {x2 : Int32} {x3 : Int32} {h : PH} {r : PH} (hq : f_Mo_notes a0 x1 x2 x3 h = some r) : E d 0 0 m_Mo_notes 0 [(0, .ref a0), (1, .int x1), (2, .int x2), (3, .int x3)] [] h (PV r) := by
  unfold f_Mo_notes at hq
  refine E_aln 0 d_Mo_notes_0 rfl rfl ?_
  obtain ⟨v1, ev1, hq⟩ := bd hq
  refine E_gI d_Mo_notes_1 lk_Mo_146 rfl ev1 ?_
  refine E_zne (tgt := 19) d_Mo_notes_4 (by decide) (fun c => ?_) (fun c => ?_)
  · rw [if_neg c] at hq
    exact E_rV d_Mo_notes_19 rfl hq
  · rw [if_pos c] at hq
    refine E_aln 0 d_Mo_notes_7 rfl rfl ?_
    obtain ⟨v2, ev2, hq⟩ := bd hq
    refine E_gR d_Mo_notes_8 lk_Mo_7 rfl ev2 ?_
    refine E_ic (v := 2) d_Mo_notes_11 (by decide) ?_
    obtain ⟨v3, ev3, hq⟩ := bd hq
    refine E_ra d_Mo_notes_12 ev3 ?_
    refine E_si (v := 150) d_Mo_notes_13 (by decide) ?_
    refine E_jne (tgt := 20) d_Mo_notes_16 (by decide) (fun c => ?_) (fun c => ?_)
    · rw [if_neg c] at hq
      refine E_ic (v := 4) d_Mo_notes_20 (by decide) ?_
      refine E_aln 0 d_Mo_notes_21 rfl rfl ?_
      obtain ⟨v4, ev4, hq⟩ := bd hq
      refine E_gR d_Mo_notes_22 lk_Mo_7 rfl ev4 ?_
      refine E_ic (v := 2) d_Mo_notes_25 (by decide) ?_
      obtain ⟨v5, ev5, hq⟩ := bd hq
      refine E_ra d_Mo_notes_26 ev5 ?_
      refine E_imul d_Mo_notes_27 ?_
      refine E_is (ls' := [(4, .int (4 * v5)), (0, .ref a0), (1, .int x1), (2, .int x2), (3, .int x3)]) d_Mo_notes_28 (Nat.le_of_ble_eq_true rfl) rfl ?_
      refine E_aln 1 d_Mo_notes_30 rfl rfl ?_
      obtain ⟨v6, ev6, hq⟩ := bd hq
      refine E_gR d_Mo_notes_31 lk_Mo_31 rfl ev6 ?_
      refine E_il 0 d_Mo_notes_34 rfl ?_
      refine E_aln 1 d_Mo_notes_36 rfl rfl ?_
      obtain ⟨v7, ev7, hq⟩ := bd hq
      refine E_gR d_Mo_notes_37 lk_Mo_7 rfl ev7 ?_
      refine E_ic (v := 0) d_Mo_notes_40 (by decide) ?_
      obtain ⟨v8, ev8, hq⟩ := bd hq
      refine E_ra d_Mo_notes_41 ev8 ?_
      obtain ⟨h9, eh9, hq⟩ := bd hq
      refine E_wa d_Mo_notes_42 eh9 ?_
      refine E_aln 1 d_Mo_notes_43 rfl rfl ?_
      obtain ⟨v10, ev10, hq⟩ := bd hq
      refine E_gR d_Mo_notes_44 lk_Mo_31 rfl ev10 ?_
      refine E_il 0 d_Mo_notes_47 rfl ?_
      refine E_ic (v := 1) d_Mo_notes_49 (by decide) ?_
      refine E_iadd d_Mo_notes_50 ?_
      refine E_iln 2 d_Mo_notes_51 rfl rfl ?_
      obtain ⟨h11, eh11, hq⟩ := bd hq
      refine E_wa d_Mo_notes_52 eh11 ?_
      refine E_aln 1 d_Mo_notes_53 rfl rfl ?_
      obtain ⟨v12, ev12, hq⟩ := bd hq
      refine E_gR d_Mo_notes_54 lk_Mo_31 rfl ev12 ?_
      refine E_il 0 d_Mo_notes_57 rfl ?_
      refine E_ic (v := 2) d_Mo_notes_59 (by decide) ?_
      refine E_iadd d_Mo_notes_60 ?_
      refine E_iln 3 d_Mo_notes_61 rfl rfl ?_
      obtain ⟨h13, eh13, hq⟩ := bd hq
      refine E_wa d_Mo_notes_62 eh13 ?_
      refine E_aln 1 d_Mo_notes_63 rfl rfl ?_
      obtain ⟨v14, ev14, hq⟩ := bd hq
      refine E_gR d_Mo_notes_64 lk_Mo_31 rfl ev14 ?_
      refine E_il 0 d_Mo_notes_67 rfl ?_
      refine E_ic (v := 3) d_Mo_notes_69 (by decide) ?_
      refine E_iadd d_Mo_notes_70 ?_
      refine E_iln 4 d_Mo_notes_71 rfl rfl ?_
      obtain ⟨h15, eh15, hq⟩ := bd hq
      refine E_wa d_Mo_notes_72 eh15 ?_
      refine E_aln 1 d_Mo_notes_73 rfl rfl ?_
      obtain ⟨v16, ev16, hq⟩ := bd hq
      refine E_gR d_Mo_notes_74 lk_Mo_7 rfl ev16 ?_
      refine E_ic (v := 2) d_Mo_notes_77 (by decide) ?_
      refine E_aln 1 d_Mo_notes_78 rfl rfl ?_
      obtain ⟨v17, ev17, hq⟩ := bd hq
      refine E_gR d_Mo_notes_79 lk_Mo_7 rfl ev17 ?_
      refine E_ic (v := 2) d_Mo_notes_82 (by decide) ?_
      obtain ⟨v18, ev18, hq⟩ := bd hq
      refine E_ra d_Mo_notes_83 ev18 ?_
      refine E_ic (v := 1) d_Mo_notes_84 (by decide) ?_
      refine E_iadd d_Mo_notes_85 ?_
      obtain ⟨h19, eh19, hq⟩ := bd hq
      refine E_wa d_Mo_notes_86 eh19 ?_
      exact E_rV d_Mo_notes_87 rfl hq
    · rw [if_pos c] at hq
      exact E_rV d_Mo_notes_19 rfl hq
def f_Mo_weighs_296 (x10 : Int32) (s0 : Int32) (s1 : Int32) (s2 : Int32) (s3 : Nat) (h : PH) : Option (Int32 × PH) :=
  (isO h 9 s3).bind fun _ =>
  (f_Mo_notes s3 s2 s1 s0 h).bind fun h1 =>
  some (x10, h1)
theorem t_Mo_weighs_296 {d : Nat} (hd : 5 ≤ d) {x10 : Int32} {s0 : Int32} {s1 : Int32} {s2 : Int32} {s3 : Nat} {h : PH} {r : Int32 × PH} (hq : f_Mo_weighs_296 x10 s0 s1 s2 s3 h = some r) : E d 0 0 m_Mo_weighs 296 [(10, .int x10)] [.int s0, .int s1, .int s2, .ref s3] h (PI r) := by
  unfold f_Mo_weighs_296 at hq
  obtain ⟨d, rfl⟩ : ∃ e, d = e + 1 := ⟨d - 1, by omega⟩
  obtain ⟨q2, eq2, hq⟩ := bd hq
  obtain ⟨h1, eh1, hq⟩ := bd hq
  refine E_cV3V d_Mo_weighs_296 ck_Mo_372 rfl rfl eq2 (Nat.le_of_ble_eq_true rfl) (Nat.le_of_ble_eq_true rfl) (t_Mo_notes (by omega) eh1) ?_
  refine E_il 0 d_Mo_weighs_299 rfl ?_
  exact E_rI d_Mo_weighs_301 rfl hq
def f_Mo_weighs_284 (x1 : Int32) (x3 : Int32) (x10 : Int32) (x11 : Int32) (s0 : Int32) (s1 : Nat) (h : PH) : Option (Int32 × PH) :=
  if x11 = 0 then
    f_Mo_weighs_296 x10 x10 x1 s0 s1 h
  else
    f_Mo_weighs_296 x10 x3 x1 s0 s1 h
theorem t_Mo_weighs_284 {d : Nat} (hd : 5 ≤ d) {x1 : Int32} {x3 : Int32} {x10 : Int32} {x11 : Int32} {s0 : Int32} {s1 : Nat} {h : PH} {r : Int32 × PH} (hq : f_Mo_weighs_284 x1 x3 x10 x11 s0 s1 h = some r) : E d 0 0 m_Mo_weighs 284 [(1, .int x1), (3, .int x3), (10, .int x10), (11, .int x11)] [.int s0, .ref s1] h (PI r) := by
  unfold f_Mo_weighs_284 at hq
  obtain ⟨d, rfl⟩ : ∃ e, d = e + 1 := ⟨d - 1, by omega⟩
  refine E_iln 0 d_Mo_weighs_284 rfl rfl ?_
  refine E_il 3 d_Mo_weighs_285 rfl ?_
  refine E_zeq (tgt := 294) d_Mo_weighs_287 (by decide) (fun c => ?_) (fun c => ?_)
  · rw [if_pos c] at hq
    refine E_il 2 d_Mo_weighs_294 rfl ?_
    exact E_sub (ks := [2]) rfl <| t_Mo_weighs_296 (by omega) hq
  · rw [if_neg c] at hq
    refine E_iln 1 d_Mo_weighs_290 rfl rfl ?_
    refine E_goto (tgt := 296) d_Mo_weighs_291 (by decide) ?_
    exact E_sub (ks := [2]) rfl <| t_Mo_weighs_296 (by omega) hq
def f_Mo_weighs_271 (a0 : Nat) (x1 : Int32) (x3 : Int32) (x10 : Int32) (s0 : Int32) (h : PH) : Option (Int32 × PH) :=
  if s0 = 0 then
    f_Mo_weighs_284 x1 x3 x10 s0 0 a0 h
  else
    f_Mo_weighs_284 x1 x3 x10 s0 2 a0 h
theorem t_Mo_weighs_271 {d : Nat} (hd : 5 ≤ d) {a0 : Nat} {x1 : Int32} {x3 : Int32} {x10 : Int32} {s0 : Int32} {h : PH} {r : Int32 × PH} (hq : f_Mo_weighs_271 a0 x1 x3 x10 s0 h = some r) : E d 0 0 m_Mo_weighs 271 [(0, .ref a0), (1, .int x1), (3, .int x3), (10, .int x10)] [.int s0] h (PI r) := by
  unfold f_Mo_weighs_271 at hq
  obtain ⟨d, rfl⟩ : ∃ e, d = e + 1 := ⟨d - 1, by omega⟩
  refine E_is (ls' := [(11, .int s0), (0, .ref a0), (1, .int x1), (3, .int x3), (10, .int x10)]) d_Mo_weighs_271 (Nat.le_of_ble_eq_true rfl) rfl ?_
  refine E_aln 1 d_Mo_weighs_273 rfl rfl ?_
  refine E_il 0 d_Mo_weighs_274 rfl ?_
  refine E_zeq (tgt := 283) d_Mo_weighs_276 (by decide) (fun c => ?_) (fun c => ?_)
  · rw [if_pos c] at hq
    refine E_ic (v := 0) d_Mo_weighs_283 (by decide) ?_
    exact E_sub (ks := [2, 3, 4, 0]) rfl <| t_Mo_weighs_284 (by omega) hq
  · rw [if_neg c] at hq
    refine E_ic (v := 2) d_Mo_weighs_279 (by decide) ?_
    refine E_goto (tgt := 284) d_Mo_weighs_280 (by decide) ?_
    exact E_sub (ks := [2, 3, 4, 0]) rfl <| t_Mo_weighs_284 (by omega) hq
def f_Mo_weighs_270 (a0 : Nat) (x1 : Int32) (x3 : Int32) (x10 : Int32) (h : PH) : Option (Int32 × PH) :=
  f_Mo_weighs_271 a0 x1 x3 x10 0 h
theorem t_Mo_weighs_270 {d : Nat} (hd : 5 ≤ d) {a0 : Nat} {x1 : Int32} {x3 : Int32} {x10 : Int32} {h : PH} {r : Int32 × PH} (hq : f_Mo_weighs_270 a0 x1 x3 x10 h = some r) : E d 0 0 m_Mo_weighs 270 [(0, .ref a0), (1, .int x1), (3, .int x3), (10, .int x10)] [] h (PI r) := by
  unfold f_Mo_weighs_270 at hq
  obtain ⟨d, rfl⟩ : ∃ e, d = e + 1 := ⟨d - 1, by omega⟩
  refine E_ic (v := 0) d_Mo_weighs_270 (by decide) ?_
  exact t_Mo_weighs_271 (by omega) hq
def f_Mo_weighs_95 (a0 : Nat) (x1 : Int32) (x2 : Int32) (x3 : Int32) (x7 : Int32) (s0 : Int32) (h : PH) : Option (Int32 × PH) :=
  (ldR h 9 a0 1).bind fun v1 =>
  (ldR h 9 a0 1).bind fun v2 =>
  (rdA h v2 s0).bind fun v3 =>
  (wrA h v1 s0 (v3 + x3)).bind fun h4 =>
  (ldR h4 9 a0 1).bind fun v5 =>
  (rdA h4 v5 (7 + x1)).bind fun v6 =>
  (isO h4 9 a0).bind fun _ =>
  (f_Mo_lesser a0 x7 v6 h4).bind fun p7 =>
  (ldR p7.2 9 a0 1).bind fun v9 =>
  (wrA p7.2 v9 (7 + x1) (v6 - p7.1)).bind fun h10 =>
  (ldR h10 9 a0 1).bind fun v11 =>
  (ldR h10 9 a0 1).bind fun v12 =>
  (rdA h10 v12 3).bind fun v13 =>
  (wrA h10 v11 3 (v13 + p7.1)).bind fun h14 =>
  (ldR h14 9 a0 1).bind fun v15 =>
  (wrA h14 v15 (19 + x1) 0).bind fun h16 =>
  (ldR h16 9 a0 1).bind fun v17 =>
  (ldR h16 9 a0 1).bind fun v18 =>
  (rdA h16 v18 (73 + x2)).bind fun v19 =>
  (isO h16 9 a0).bind fun _ =>
  (f_Mo_lesser a0 9 (v19 + 1) h16).bind fun p20 =>
  (wrA p20.2 v17 (73 + x2) p20.1).bind fun h22 =>
  if x7 ≤ v6 then
    (ldR h22 9 a0 1).bind fun v23 =>
    (wrA h22 v23 (55 + x1) 0).bind fun h24 =>
    (ldR h24 9 a0 1).bind fun v25 =>
    (wrA h24 v25 (43 + x1) 1).bind fun h26 =>
    (ldR h26 9 a0 1).bind fun v27 =>
    (wrA h26 v27 (31 + x1) 0).bind fun h28 =>
    if x7 = 0 then
      if x3 ≤ 0 then
        f_Mo_weighs_270 a0 x1 x3 p7.1 h28
      else
        f_Mo_weighs_271 a0 x1 x3 p7.1 1 h28
    else
      f_Mo_weighs_270 a0 x1 x3 p7.1 h28
  else
    (ldR h22 9 a0 1).bind fun v29 =>
    (wrA h22 v29 (55 + x1) 1).bind fun h30 =>
    (isO h30 9 a0).bind fun _ =>
    (f_Mo_notes a0 1 x1 p7.1 h30).bind fun h31 =>
    some (p7.1, h31)
theorem t_Mo_weighs_95 {d : Nat} (hd : 5 ≤ d) {a0 : Nat} {x1 : Int32} {x2 : Int32} {x3 : Int32} {x7 : Int32} {s0 : Int32} {h : PH} {r : Int32 × PH} (hq : f_Mo_weighs_95 a0 x1 x2 x3 x7 s0 h = some r) : E d 0 0 m_Mo_weighs 95 [(0, .ref a0), (1, .int x1), (2, .int x2), (3, .int x3), (7, .int x7)] [.int s0] h (PI r) := by
  unfold f_Mo_weighs_95 at hq
  obtain ⟨d, rfl⟩ : ∃ e, d = e + 1 := ⟨d - 1, by omega⟩
  refine E_is (ls' := [(8, .int s0), (0, .ref a0), (1, .int x1), (2, .int x2), (3, .int x3), (7, .int x7)]) d_Mo_weighs_95 (Nat.le_of_ble_eq_true rfl) rfl ?_
  refine E_aln 1 d_Mo_weighs_97 rfl rfl ?_
  obtain ⟨v1, ev1, hq⟩ := bd hq
  refine E_gR d_Mo_weighs_98 lk_Mo_7 rfl ev1 ?_
  refine E_il 0 d_Mo_weighs_101 rfl ?_
  refine E_aln 1 d_Mo_weighs_103 rfl rfl ?_
  obtain ⟨v2, ev2, hq⟩ := bd hq
  refine E_gR d_Mo_weighs_104 lk_Mo_7 rfl ev2 ?_
  refine E_il 0 d_Mo_weighs_107 rfl ?_
  obtain ⟨v3, ev3, hq⟩ := bd hq
  refine E_ra d_Mo_weighs_109 ev3 ?_
  refine E_iln 4 d_Mo_weighs_110 rfl rfl ?_
  refine E_iadd d_Mo_weighs_111 ?_
  obtain ⟨h4, eh4, hq⟩ := bd hq
  refine E_wa d_Mo_weighs_112 eh4 ?_
  refine E_aln 1 d_Mo_weighs_113 rfl rfl ?_
  obtain ⟨v5, ev5, hq⟩ := bd hq
  refine E_gR d_Mo_weighs_114 lk_Mo_7 rfl ev5 ?_
  refine E_bi (v := 7) d_Mo_weighs_117 (by decide) ?_
  refine E_iln 2 d_Mo_weighs_119 rfl rfl ?_
  refine E_iadd d_Mo_weighs_120 ?_
  obtain ⟨v6, ev6, hq⟩ := bd hq
  refine E_ra d_Mo_weighs_121 ev6 ?_
  refine E_is (ls' := [(9, .int v6), (8, .int s0), (0, .ref a0), (1, .int x1), (2, .int x2), (3, .int x3), (7, .int x7)]) d_Mo_weighs_122 (Nat.le_of_ble_eq_true rfl) rfl ?_
  refine E_aln 2 d_Mo_weighs_124 rfl rfl ?_
  refine E_il 6 d_Mo_weighs_125 rfl ?_
  refine E_il 0 d_Mo_weighs_127 rfl ?_
  obtain ⟨q8, eq8, hq⟩ := bd hq
  obtain ⟨p7, ep7, hq⟩ := bd hq
  refine E_cV2I d_Mo_weighs_129 ck_Mo_369 rfl rfl eq8 (Nat.le_of_ble_eq_true rfl) (Nat.le_of_ble_eq_true rfl) (t_Mo_lesser (by omega) ep7) ?_
  refine E_is (ls' := [(10, .int p7.1), (9, .int v6), (8, .int s0), (0, .ref a0), (1, .int x1), (2, .int x2), (3, .int x3), (7, .int x7)]) d_Mo_weighs_132 (Nat.le_of_ble_eq_true rfl) rfl ?_
  refine E_aln 3 d_Mo_weighs_134 rfl rfl ?_
  obtain ⟨v9, ev9, hq⟩ := bd hq
  refine E_gR d_Mo_weighs_135 lk_Mo_7 rfl ev9 ?_
  refine E_bi (v := 7) d_Mo_weighs_138 (by decide) ?_
  refine E_iln 4 d_Mo_weighs_140 rfl rfl ?_
  refine E_iadd d_Mo_weighs_141 ?_
  refine E_il 1 d_Mo_weighs_142 rfl ?_
  refine E_il 0 d_Mo_weighs_144 rfl ?_
  refine E_isub d_Mo_weighs_146 ?_
  obtain ⟨h10, eh10, hq⟩ := bd hq
  refine E_wa d_Mo_weighs_147 eh10 ?_
  refine E_aln 3 d_Mo_weighs_148 rfl rfl ?_
  obtain ⟨v11, ev11, hq⟩ := bd hq
  refine E_gR d_Mo_weighs_149 lk_Mo_7 rfl ev11 ?_
  refine E_ic (v := 3) d_Mo_weighs_152 (by decide) ?_
  refine E_aln 3 d_Mo_weighs_153 rfl rfl ?_
  obtain ⟨v12, ev12, hq⟩ := bd hq
  refine E_gR d_Mo_weighs_154 lk_Mo_7 rfl ev12 ?_
  refine E_ic (v := 3) d_Mo_weighs_157 (by decide) ?_
  obtain ⟨v13, ev13, hq⟩ := bd hq
  refine E_ra d_Mo_weighs_158 ev13 ?_
  refine E_il 0 d_Mo_weighs_159 rfl ?_
  refine E_iadd d_Mo_weighs_161 ?_
  obtain ⟨h14, eh14, hq⟩ := bd hq
  refine E_wa d_Mo_weighs_162 eh14 ?_
  refine E_aln 3 d_Mo_weighs_163 rfl rfl ?_
  obtain ⟨v15, ev15, hq⟩ := bd hq
  refine E_gR d_Mo_weighs_164 lk_Mo_7 rfl ev15 ?_
  refine E_bi (v := 19) d_Mo_weighs_167 (by decide) ?_
  refine E_iln 4 d_Mo_weighs_169 rfl rfl ?_
  refine E_iadd d_Mo_weighs_170 ?_
  refine E_ic (v := 0) d_Mo_weighs_171 (by decide) ?_
  obtain ⟨h16, eh16, hq⟩ := bd hq
  refine E_wa d_Mo_weighs_172 eh16 ?_
  refine E_aln 3 d_Mo_weighs_173 rfl rfl ?_
  obtain ⟨v17, ev17, hq⟩ := bd hq
  refine E_gR d_Mo_weighs_174 lk_Mo_7 rfl ev17 ?_
  refine E_bi (v := 73) d_Mo_weighs_177 (by decide) ?_
  refine E_iln 5 d_Mo_weighs_179 rfl rfl ?_
  refine E_iadd d_Mo_weighs_180 ?_
  refine E_aln 3 d_Mo_weighs_181 rfl rfl ?_
  refine E_bi (v := 9) d_Mo_weighs_182 (by decide) ?_
  refine E_aln 3 d_Mo_weighs_184 rfl rfl ?_
  obtain ⟨v18, ev18, hq⟩ := bd hq
  refine E_gR d_Mo_weighs_185 lk_Mo_7 rfl ev18 ?_
  refine E_bi (v := 73) d_Mo_weighs_188 (by decide) ?_
  refine E_iln 5 d_Mo_weighs_190 rfl rfl ?_
  refine E_iadd d_Mo_weighs_191 ?_
  obtain ⟨v19, ev19, hq⟩ := bd hq
  refine E_ra d_Mo_weighs_192 ev19 ?_
  refine E_ic (v := 1) d_Mo_weighs_193 (by decide) ?_
  refine E_iadd d_Mo_weighs_194 ?_
  obtain ⟨q21, eq21, hq⟩ := bd hq
  obtain ⟨p20, ep20, hq⟩ := bd hq
  refine E_cV2I d_Mo_weighs_195 ck_Mo_369 rfl rfl eq21 (Nat.le_of_ble_eq_true rfl) (Nat.le_of_ble_eq_true rfl) (t_Mo_lesser (by omega) ep20) ?_
  obtain ⟨h22, eh22, hq⟩ := bd hq
  refine E_wa d_Mo_weighs_198 eh22 ?_
  refine E_il 7 d_Mo_weighs_199 rfl ?_
  refine E_il 1 d_Mo_weighs_201 rfl ?_
  refine E_jle (tgt := 227) d_Mo_weighs_203 (by decide) (fun c => ?_) (fun c => ?_)
  · rw [if_pos c] at hq
    refine E_aln 3 d_Mo_weighs_227 rfl rfl ?_
    obtain ⟨v23, ev23, hq⟩ := bd hq
    refine E_gR d_Mo_weighs_228 lk_Mo_7 rfl ev23 ?_
    refine E_bi (v := 55) d_Mo_weighs_231 (by decide) ?_
    refine E_iln 4 d_Mo_weighs_233 rfl rfl ?_
    refine E_iadd d_Mo_weighs_234 ?_
    refine E_ic (v := 0) d_Mo_weighs_235 (by decide) ?_
    obtain ⟨h24, eh24, hq⟩ := bd hq
    refine E_wa d_Mo_weighs_236 eh24 ?_
    refine E_aln 3 d_Mo_weighs_237 rfl rfl ?_
    obtain ⟨v25, ev25, hq⟩ := bd hq
    refine E_gR d_Mo_weighs_238 lk_Mo_7 rfl ev25 ?_
    refine E_bi (v := 43) d_Mo_weighs_241 (by decide) ?_
    refine E_iln 4 d_Mo_weighs_243 rfl rfl ?_
    refine E_iadd d_Mo_weighs_244 ?_
    refine E_ic (v := 1) d_Mo_weighs_245 (by decide) ?_
    obtain ⟨h26, eh26, hq⟩ := bd hq
    refine E_wa d_Mo_weighs_246 eh26 ?_
    refine E_aln 3 d_Mo_weighs_247 rfl rfl ?_
    obtain ⟨v27, ev27, hq⟩ := bd hq
    refine E_gR d_Mo_weighs_248 lk_Mo_7 rfl ev27 ?_
    refine E_bi (v := 31) d_Mo_weighs_251 (by decide) ?_
    refine E_iln 4 d_Mo_weighs_253 rfl rfl ?_
    refine E_iadd d_Mo_weighs_254 ?_
    refine E_ic (v := 0) d_Mo_weighs_255 (by decide) ?_
    obtain ⟨h28, eh28, hq⟩ := bd hq
    refine E_wa d_Mo_weighs_256 eh28 ?_
    refine E_il 7 d_Mo_weighs_257 rfl ?_
    refine E_zne (tgt := 270) d_Mo_weighs_259 (by decide) (fun c => ?_) (fun c => ?_)
    · rw [if_neg c] at hq
      exact E_sub (ks := [3, 4, 6, 0]) rfl <| t_Mo_weighs_270 (by omega) hq
    · rw [if_pos c] at hq
      refine E_iln 6 d_Mo_weighs_262 rfl rfl ?_
      refine E_zle (tgt := 270) d_Mo_weighs_263 (by decide) (fun c => ?_) (fun c => ?_)
      · rw [if_pos c] at hq
        exact E_sub (ks := [3, 4, 6, 0]) rfl <| t_Mo_weighs_270 (by omega) hq
      · rw [if_neg c] at hq
        refine E_ic (v := 1) d_Mo_weighs_266 (by decide) ?_
        refine E_goto (tgt := 271) d_Mo_weighs_267 (by decide) ?_
        exact E_sub (ks := [3, 4, 6, 0]) rfl <| t_Mo_weighs_271 (by omega) hq
  · rw [if_neg c] at hq
    refine E_aln 3 d_Mo_weighs_206 rfl rfl ?_
    obtain ⟨v29, ev29, hq⟩ := bd hq
    refine E_gR d_Mo_weighs_207 lk_Mo_7 rfl ev29 ?_
    refine E_bi (v := 55) d_Mo_weighs_210 (by decide) ?_
    refine E_iln 4 d_Mo_weighs_212 rfl rfl ?_
    refine E_iadd d_Mo_weighs_213 ?_
    refine E_ic (v := 1) d_Mo_weighs_214 (by decide) ?_
    obtain ⟨h30, eh30, hq⟩ := bd hq
    refine E_wa d_Mo_weighs_215 eh30 ?_
    refine E_aln 3 d_Mo_weighs_216 rfl rfl ?_
    refine E_ic (v := 1) d_Mo_weighs_217 (by decide) ?_
    refine E_iln 4 d_Mo_weighs_218 rfl rfl ?_
    refine E_il 0 d_Mo_weighs_219 rfl ?_
    obtain ⟨q32, eq32, hq⟩ := bd hq
    obtain ⟨h31, eh31, hq⟩ := bd hq
    refine E_cV3V d_Mo_weighs_221 ck_Mo_372 rfl rfl eq32 (Nat.le_of_ble_eq_true rfl) (Nat.le_of_ble_eq_true rfl) (t_Mo_notes (by omega) eh31) ?_
    refine E_il 0 d_Mo_weighs_224 rfl ?_
    exact E_rI d_Mo_weighs_226 rfl hq
def f_Mo_weighs_83 (a0 : Nat) (x1 : Int32) (x2 : Int32) (x3 : Int32) (x6 : Int32) (s0 : Int32) (h : PH) : Option (Int32 × PH) :=
  if x6 = 0 then
    f_Mo_weighs_95 a0 x1 x2 x3 s0 5 h
  else
    f_Mo_weighs_95 a0 x1 x2 x3 s0 4 h
theorem t_Mo_weighs_83 {d : Nat} (hd : 5 ≤ d) {a0 : Nat} {x1 : Int32} {x2 : Int32} {x3 : Int32} {x6 : Int32} {s0 : Int32} {h : PH} {r : Int32 × PH} (hq : f_Mo_weighs_83 a0 x1 x2 x3 x6 s0 h = some r) : E d 0 0 m_Mo_weighs 83 [(0, .ref a0), (1, .int x1), (2, .int x2), (3, .int x3), (6, .int x6)] [.int s0] h (PI r) := by
  unfold f_Mo_weighs_83 at hq
  obtain ⟨d, rfl⟩ : ∃ e, d = e + 1 := ⟨d - 1, by omega⟩
  refine E_is (ls' := [(7, .int s0), (0, .ref a0), (1, .int x1), (2, .int x2), (3, .int x3), (6, .int x6)]) d_Mo_weighs_83 (Nat.le_of_ble_eq_true rfl) rfl ?_
  refine E_il 5 d_Mo_weighs_85 rfl ?_
  refine E_zeq (tgt := 94) d_Mo_weighs_87 (by decide) (fun c => ?_) (fun c => ?_)
  · rw [if_pos c] at hq
    refine E_ic (v := 5) d_Mo_weighs_94 (by decide) ?_
    exact E_sub (ks := [1, 2, 3, 4, 0]) rfl <| t_Mo_weighs_95 (by omega) hq
  · rw [if_neg c] at hq
    refine E_ic (v := 4) d_Mo_weighs_90 (by decide) ?_
    refine E_goto (tgt := 95) d_Mo_weighs_91 (by decide) ?_
    exact E_sub (ks := [1, 2, 3, 4, 0]) rfl <| t_Mo_weighs_95 (by omega) hq
def f_Mo_weighs_68 (a0 : Nat) (x1 : Int32) (x2 : Int32) (x3 : Int32) (x4 : Int32) (s0 : Int32) (h : PH) : Option (Int32 × PH) :=
  if s0 = 0 then
    f_Mo_weighs_83 a0 x1 x2 x3 s0 0 h
  else
    f_Mo_weighs_83 a0 x1 x2 x3 s0 (x4 * x3) h
theorem t_Mo_weighs_68 {d : Nat} (hd : 5 ≤ d) {a0 : Nat} {x1 : Int32} {x2 : Int32} {x3 : Int32} {x4 : Int32} {s0 : Int32} {h : PH} {r : Int32 × PH} (hq : f_Mo_weighs_68 a0 x1 x2 x3 x4 s0 h = some r) : E d 0 0 m_Mo_weighs 68 [(0, .ref a0), (1, .int x1), (2, .int x2), (3, .int x3), (4, .int x4)] [.int s0] h (PI r) := by
  unfold f_Mo_weighs_68 at hq
  obtain ⟨d, rfl⟩ : ∃ e, d = e + 1 := ⟨d - 1, by omega⟩
  refine E_is (ls' := [(6, .int s0), (0, .ref a0), (1, .int x1), (2, .int x2), (3, .int x3), (4, .int x4)]) d_Mo_weighs_68 (Nat.le_of_ble_eq_true rfl) rfl ?_
  refine E_il 0 d_Mo_weighs_70 rfl ?_
  refine E_zeq (tgt := 82) d_Mo_weighs_72 (by decide) (fun c => ?_) (fun c => ?_)
  · rw [if_pos c] at hq
    refine E_ic (v := 0) d_Mo_weighs_82 (by decide) ?_
    exact E_sub (ks := [1, 2, 3, 4, 0]) rfl <| t_Mo_weighs_83 (by omega) hq
  · rw [if_neg c] at hq
    refine E_il 5 d_Mo_weighs_75 rfl ?_
    refine E_iln 4 d_Mo_weighs_77 rfl rfl ?_
    refine E_imul d_Mo_weighs_78 ?_
    refine E_goto (tgt := 83) d_Mo_weighs_79 (by decide) ?_
    exact E_sub (ks := [1, 2, 3, 4, 0]) rfl <| t_Mo_weighs_83 (by omega) hq
def f_Mo_weighs (a0 : Nat) (x1 : Int32) (x2 : Int32) (h : PH) : Option (Int32 × PH) :=
  (ldR h 9 a0 1).bind fun v1 =>
  (rdA h v1 (19 + x1)).bind fun v2 =>
  (isO h 9 a0).bind fun _ =>
  (f_Mo_rateOf a0 x1 x2 h).bind fun p3 =>
  (isO p3.2 9 a0).bind fun _ =>
  (f_Mo_findOf a0 x1 x2 p3.2).bind fun p5 =>
  (ldI p5.2 9 a0 5).bind fun v7 =>
  if v7 = 0 then
    (isO p5.2 9 a0).bind fun _ =>
    (f_Mo_draw a0 1000 p5.2).bind fun p8 =>
    if p5.1 ≤ p8.1 then
      f_Mo_weighs_68 a0 x1 x2 v2 p3.1 0 p8.2
    else
      f_Mo_weighs_68 a0 x1 x2 v2 p3.1 1 p8.2
  else
    if (2 * p5.1) < 1000 then
      f_Mo_weighs_68 a0 x1 x2 v2 p3.1 0 p5.2
    else
      f_Mo_weighs_68 a0 x1 x2 v2 p3.1 1 p5.2
theorem t_Mo_weighs {d : Nat} (hd : 5 ≤ d) {a0 : Nat} {x1 : Int32} {x2 : Int32} {h : PH} {r : Int32 × PH} (hq : f_Mo_weighs a0 x1 x2 h = some r) : E d 0 0 m_Mo_weighs 0 [(0, .ref a0), (1, .int x1), (2, .int x2)] [] h (PI r) := by
  unfold f_Mo_weighs at hq
  obtain ⟨d, rfl⟩ : ∃ e, d = e + 1 := ⟨d - 1, by omega⟩
  refine E_aln 0 d_Mo_weighs_0 rfl rfl ?_
  obtain ⟨v1, ev1, hq⟩ := bd hq
  refine E_gR d_Mo_weighs_1 lk_Mo_7 rfl ev1 ?_
  refine E_bi (v := 19) d_Mo_weighs_4 (by decide) ?_
  refine E_iln 1 d_Mo_weighs_6 rfl rfl ?_
  refine E_iadd d_Mo_weighs_7 ?_
  obtain ⟨v2, ev2, hq⟩ := bd hq
  refine E_ra d_Mo_weighs_8 ev2 ?_
  refine E_isn (ls' := [(3, .int v2), (0, .ref a0), (1, .int x1), (2, .int x2)]) d_Mo_weighs_9 (Nat.le_of_ble_eq_true rfl) rfl ?_
  refine E_aln 1 d_Mo_weighs_10 rfl rfl ?_
  refine E_iln 2 d_Mo_weighs_11 rfl rfl ?_
  refine E_iln 3 d_Mo_weighs_12 rfl rfl ?_
  obtain ⟨q4, eq4, hq⟩ := bd hq
  obtain ⟨p3, ep3, hq⟩ := bd hq
  refine E_cV2I d_Mo_weighs_13 ck_Mo_360 rfl rfl eq4 (Nat.le_of_ble_eq_true rfl) (Nat.le_of_ble_eq_true rfl) (t_Mo_rateOf (by omega) ep3) ?_
  refine E_is (ls' := [(4, .int p3.1), (3, .int v2), (0, .ref a0), (1, .int x1), (2, .int x2)]) d_Mo_weighs_16 (Nat.le_of_ble_eq_true rfl) rfl ?_
  refine E_aln 2 d_Mo_weighs_18 rfl rfl ?_
  refine E_iln 3 d_Mo_weighs_19 rfl rfl ?_
  refine E_iln 4 d_Mo_weighs_20 rfl rfl ?_
  obtain ⟨q6, eq6, hq⟩ := bd hq
  obtain ⟨p5, ep5, hq⟩ := bd hq
  refine E_cV2I d_Mo_weighs_21 ck_Mo_363 rfl rfl eq6 (Nat.le_of_ble_eq_true rfl) (Nat.le_of_ble_eq_true rfl) (t_Mo_findOf (by omega) ep5) ?_
  refine E_is (ls' := [(5, .int p5.1), (4, .int p3.1), (3, .int v2), (0, .ref a0), (1, .int x1), (2, .int x2)]) d_Mo_weighs_24 (Nat.le_of_ble_eq_true rfl) rfl ?_
  refine E_aln 3 d_Mo_weighs_26 rfl rfl ?_
  obtain ⟨v7, ev7, hq⟩ := bd hq
  refine E_gI d_Mo_weighs_27 lk_Mo_146 rfl ev7 ?_
  refine E_zeq (tgt := 51) d_Mo_weighs_30 (by decide) (fun c => ?_) (fun c => ?_)
  · rw [if_pos c] at hq
    refine E_aln 3 d_Mo_weighs_51 rfl rfl ?_
    refine E_si (v := 1000) d_Mo_weighs_52 (by decide) ?_
    obtain ⟨q9, eq9, hq⟩ := bd hq
    obtain ⟨p8, ep8, hq⟩ := bd hq
    refine E_cV1I d_Mo_weighs_55 ck_Mo_366 rfl rfl eq9 (Nat.le_of_ble_eq_true rfl) (Nat.le_of_ble_eq_true rfl) (t_Mo_draw (by omega) ep8) ?_
    refine E_il 0 d_Mo_weighs_58 rfl ?_
    refine E_jge (tgt := 67) d_Mo_weighs_60 (by decide) (fun c => ?_) (fun c => ?_)
    · rw [if_pos c] at hq
      refine E_ic (v := 0) d_Mo_weighs_67 (by decide) ?_
      exact E_sub (ks := [3, 4, 5, 2, 1]) rfl <| t_Mo_weighs_68 (by omega) hq
    · rw [if_neg c] at hq
      refine E_ic (v := 1) d_Mo_weighs_63 (by decide) ?_
      refine E_goto (tgt := 68) d_Mo_weighs_64 (by decide) ?_
      exact E_sub (ks := [3, 4, 5, 2, 1]) rfl <| t_Mo_weighs_68 (by omega) hq
  · rw [if_neg c] at hq
    refine E_ic (v := 2) d_Mo_weighs_33 (by decide) ?_
    refine E_il 0 d_Mo_weighs_34 rfl ?_
    refine E_imul d_Mo_weighs_36 ?_
    refine E_si (v := 1000) d_Mo_weighs_37 (by decide) ?_
    refine E_jlt (tgt := 47) d_Mo_weighs_40 (by decide) (fun c => ?_) (fun c => ?_)
    · rw [if_pos c] at hq
      refine E_ic (v := 0) d_Mo_weighs_47 (by decide) ?_
      refine E_goto (tgt := 68) d_Mo_weighs_48 (by decide) ?_
      exact E_sub (ks := [3, 4, 5, 2, 1]) rfl <| t_Mo_weighs_68 (by omega) hq
    · rw [if_neg c] at hq
      refine E_ic (v := 1) d_Mo_weighs_43 (by decide) ?_
      refine E_goto (tgt := 68) d_Mo_weighs_44 (by decide) ?_
      exact E_sub (ks := [3, 4, 5, 2, 1]) rfl <| t_Mo_weighs_68 (by omega) hq
