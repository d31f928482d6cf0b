def f_Mo_weigh (a0 : Nat) (x1 : Int32) (x2 : Int32) (h : PH) : Option (Int32 × PH) :=
  (stI h 9 a0 0 0).bind fun h1 =>
  (isO h1 9 a0).bind fun _ =>
  (f_Mo_isTraveller a0 x1 h1).bind fun p2 =>
  if p2.1 = 0 then
    some ((-1), p2.2)
  else
    (isO p2.2 9 a0).bind fun _ =>
    (f_Mo_isOfficer a0 x2 p2.2).bind fun p4 =>
    if p4.1 = 0 then
      some ((-1), p4.2)
    else
      (ldR p4.2 9 a0 1).bind fun v6 =>
      (rdA p4.2 v6 (43 + x1)).bind fun v7 =>
      if v7 = 1 then
        some ((-1), p4.2)
      else
        (isO p4.2 9 a0).bind fun _ =>
        (f_Mo_keepsAhead a0  p4.2).bind fun h8 =>
        (isO h8 9 a0).bind fun _ =>
        (f_Mo_weighs a0 x1 x2 h8).bind fun p10 =>
        some (p10.1, p10.2)
theorem t_Mo_weigh {d : Nat} (hd : 6 ≤ d) {a0 : Nat} {x1 : Int32} {x2 : Int32} {h : PH} {r : Int32 × PH} (hq : f_Mo_weigh a0 x1 x2 h = some r) : E d 0 0 m_Mo_weigh 0 [(0, .ref a0), (1, .int x1), (2, .int x2)] [] h (PI r) := by
  unfold f_Mo_weigh at hq
  obtain ⟨d, rfl⟩ : ∃ e, d = e + 1 := ⟨d - 1, by omega⟩
  refine E_aln 0 d_Mo_weigh_0 rfl rfl ?_
  refine E_ic (v := 0) d_Mo_weigh_1 (by decide) ?_
  obtain ⟨h1, eh1, hq⟩ := bd hq
  refine E_pI d_Mo_weigh_2 lp_Mo_m_140 rfl eh1 ?_
  refine E_aln 0 d_Mo_weigh_5 rfl rfl ?_
  refine E_iln 1 d_Mo_weigh_6 rfl rfl ?_
  obtain ⟨q3, eq3, hq⟩ := bd hq
  obtain ⟨p2, ep2, hq⟩ := bd hq
  refine E_cV1I d_Mo_weigh_7 ck_Mo_170 rfl rfl eq3 (Nat.le_of_ble_eq_true rfl) (Nat.le_of_ble_eq_true rfl) (t_Mo_isTraveller (by omega) ep2) ?_
  refine E_zeq (tgt := 34) d_Mo_weigh_10 (by decide) (fun c => ?_) (fun c => ?_)
  · rw [if_pos c] at hq
    refine E_ic (v := (-1)) d_Mo_weigh_34 (by decide) ?_
    exact E_rI d_Mo_weigh_35 rfl hq
  · rw [if_neg c] at hq
    refine E_aln 0 d_Mo_weigh_13 rfl rfl ?_
    refine E_iln 2 d_Mo_weigh_14 rfl rfl ?_
    obtain ⟨q5, eq5, hq⟩ := bd hq
    obtain ⟨p4, ep4, hq⟩ := bd hq
    refine E_cV1I d_Mo_weigh_15 ck_Mo_173 rfl rfl eq5 (Nat.le_of_ble_eq_true rfl) (Nat.le_of_ble_eq_true rfl) (t_Mo_isOfficer (by omega) ep4) ?_
    refine E_zeq (tgt := 34) d_Mo_weigh_18 (by decide) (fun c => ?_) (fun c => ?_)
    · rw [if_pos c] at hq
      refine E_ic (v := (-1)) d_Mo_weigh_34 (by decide) ?_
      exact E_rI d_Mo_weigh_35 rfl hq
    · rw [if_neg c] at hq
      refine E_aln 0 d_Mo_weigh_21 rfl rfl ?_
      obtain ⟨v6, ev6, hq⟩ := bd hq
      refine E_gR d_Mo_weigh_22 lk_Mo_7 rfl ev6 ?_
      refine E_bi (v := 43) d_Mo_weigh_25 (by decide) ?_
      refine E_iln 1 d_Mo_weigh_27 rfl rfl ?_
      refine E_iadd d_Mo_weigh_28 ?_
      obtain ⟨v7, ev7, hq⟩ := bd hq
      refine E_ra d_Mo_weigh_29 ev7 ?_
      refine E_ic (v := 1) d_Mo_weigh_30 (by decide) ?_
      refine E_jne (tgt := 36) d_Mo_weigh_31 (by decide) (fun c => ?_) (fun c => ?_)
      · rw [if_neg c] at hq
        refine E_aln 0 d_Mo_weigh_36 rfl rfl ?_
        obtain ⟨q9, eq9, hq⟩ := bd hq
        obtain ⟨h8, eh8, hq⟩ := bd hq
        refine E_cV0V d_Mo_weigh_37 ck_Mo_376 rfl rfl eq9 (Nat.le_of_ble_eq_true rfl) (Nat.le_of_ble_eq_true rfl) (t_Mo_keepsAhead (by omega) eh8) ?_
        refine E_aln 0 d_Mo_weigh_40 rfl rfl ?_
        refine E_iln 1 d_Mo_weigh_41 rfl rfl ?_
        refine E_iln 2 d_Mo_weigh_42 rfl rfl ?_
        obtain ⟨q11, eq11, hq⟩ := bd hq
        obtain ⟨p10, ep10, hq⟩ := bd hq
        refine E_cV2I d_Mo_weigh_43 ck_Mo_379 rfl rfl eq11 (Nat.le_of_ble_eq_true rfl) (Nat.le_of_ble_eq_true rfl) (t_Mo_weighs (by omega) ep10) ?_
        exact E_rI d_Mo_weigh_46 rfl hq
      · rw [if_pos c] at hq
        refine E_ic (v := (-1)) d_Mo_weigh_34 (by decide) ?_
        exact E_rI d_Mo_weigh_35 rfl hq
def f_Mo_has (a0 : Nat) (x1 : Int32) (x2 : Int32) (h : PH) : Option (Int32 × PH) :=
  if ((jshr x1 x2) &&& 1) = 1 then
    rtZ 1 h
  else
    rtZ 0 h
theorem t_Mo_has {d : Nat} (hd : 0 ≤ d) {a0 : Nat} {x1 : Int32} {x2 : Int32} {h : PH} {r : Int32 × PH} (hq : f_Mo_has a0 x1 x2 h = some r) : E d 0 0 m_Mo_has 0 [(0, .ref a0), (1, .int x1), (2, .int x2)] [] h (PI r) := by
  unfold f_Mo_has at hq
  refine E_iln 1 d_Mo_has_0 rfl rfl ?_
  refine E_iln 2 d_Mo_has_1 rfl rfl ?_
  refine E_ishr d_Mo_has_2 ?_
  refine E_ic (v := 1) d_Mo_has_3 (by decide) ?_
  refine E_iand d_Mo_has_4 ?_
  refine E_ic (v := 1) d_Mo_has_5 (by decide) ?_
  refine E_jne (tgt := 13) d_Mo_has_6 (by decide) (fun c => ?_) (fun c => ?_)
  · rw [if_neg c] at hq
    refine E_ic (v := 0) d_Mo_has_13 (by decide) ?_
    exact E_rZ d_Mo_has_14 rfl hq
  · rw [if_pos c] at hq
    refine E_ic (v := 1) d_Mo_has_9 (by decide) ?_
    refine E_goto (tgt := 14) d_Mo_has_10 (by decide) ?_
    exact E_rZ d_Mo_has_14 rfl hq
def f_Mo_isOpen (a0 : Nat) (x1 : Int32) (h : PH) : Option (Int32 × PH) :=
  (ldR h 9 a0 1).bind fun v1 =>
  (rdA h v1 6).bind fun v2 =>
  (isO h 9 a0).bind fun _ =>
  (f_Mo_has a0 v2 x1 h).bind fun p3 =>
  if p3.1 = 0 then
    rtZ 1 p3.2
  else
    rtZ 0 p3.2
theorem t_Mo_isOpen {d : Nat} (hd : 1 ≤ d) {a0 : Nat} {x1 : Int32} {h : PH} {r : Int32 × PH} (hq : f_Mo_isOpen a0 x1 h = some r) : E d 0 0 m_Mo_isOpen 0 [(0, .ref a0), (1, .int x1)] [] h (PI r) := by
  unfold f_Mo_isOpen at hq
  obtain ⟨d, rfl⟩ : ∃ e, d = e + 1 := ⟨d - 1, by omega⟩
  refine E_aln 0 d_Mo_isOpen_0 rfl rfl ?_
  refine E_aln 0 d_Mo_isOpen_1 rfl rfl ?_
  obtain ⟨v1, ev1, hq⟩ := bd hq
  refine E_gR d_Mo_isOpen_2 lk_Mo_7 rfl ev1 ?_
  refine E_bi (v := 6) d_Mo_isOpen_5 (by decide) ?_
  obtain ⟨v2, ev2, hq⟩ := bd hq
  refine E_ra d_Mo_isOpen_7 ev2 ?_
  refine E_iln 1 d_Mo_isOpen_8 rfl rfl ?_
  obtain ⟨q4, eq4, hq⟩ := bd hq
  obtain ⟨p3, ep3, hq⟩ := bd hq
  refine E_cV2I d_Mo_isOpen_9 ck_Mo_158 rfl rfl eq4 (Nat.le_of_ble_eq_true rfl) (Nat.le_of_ble_eq_true rfl) (t_Mo_has (by omega) ep3) ?_
  refine E_zne (tgt := 19) d_Mo_isOpen_12 (by decide) (fun c => ?_) (fun c => ?_)
  · rw [if_neg c] at hq
    refine E_ic (v := 0) d_Mo_isOpen_19 (by decide) ?_
    exact E_rZ d_Mo_isOpen_20 rfl hq
  · rw [if_pos c] at hq
    refine E_ic (v := 1) d_Mo_isOpen_15 (by decide) ?_
    refine E_goto (tgt := 20) d_Mo_isOpen_16 (by decide) ?_
    exact E_rZ d_Mo_isOpen_20 rfl hq
def f_Mo_canAct_46 (h : PH) : Option (Int32 × PH) :=
  rtZ 1 h
theorem t_Mo_canAct_46 {d : Nat} (hd : 2 ≤ d) {h : PH} {r : Int32 × PH} (hq : f_Mo_canAct_46 h = some r) : E d 0 0 m_Mo_canAct 46 [] [] h (PI r) := by
  unfold f_Mo_canAct_46 at hq
  obtain ⟨d, rfl⟩ : ∃ e, d = e + 1 := ⟨d - 1, by omega⟩
  refine E_ic (v := 1) d_Mo_canAct_46 (by decide) ?_
  refine E_goto (tgt := 51) d_Mo_canAct_47 (by decide) ?_
  exact E_rZ d_Mo_canAct_51 rfl hq
def f_Mo_canAct_43 (s0 : Int32) (s1 : Int32) (h : PH) : Option (Int32 × PH) :=
  if s1 = s0 then
    f_Mo_canAct_46  h
  else
    rtZ 0 h
theorem t_Mo_canAct_43 {d : Nat} (hd : 2 ≤ d) {s0 : Int32} {s1 : Int32} {h : PH} {r : Int32 × PH} (hq : f_Mo_canAct_43 s0 s1 h = some r) : E d 0 0 m_Mo_canAct 43 [] [.int s0, .int s1] h (PI r) := by
  unfold f_Mo_canAct_43 at hq
  obtain ⟨d, rfl⟩ : ∃ e, d = e + 1 := ⟨d - 1, by omega⟩
  refine E_jne (tgt := 50) d_Mo_canAct_43 (by decide) (fun c => ?_) (fun c => ?_)
  · rw [if_neg c] at hq
    refine E_ic (v := 0) d_Mo_canAct_50 (by decide) ?_
    exact E_rZ d_Mo_canAct_51 rfl hq
  · rw [if_pos c] at hq
    exact t_Mo_canAct_46 (by omega) hq
def f_Mo_canAct (a0 : Nat) (x1 : Int32) (x2 : Int32) (h : PH) : Option (Int32 × PH) :=
  if 3 ≤ x1 then
    if x1 = 3 then
      f_Mo_canAct_46  h
    else
      (isO h 9 a0).bind fun _ =>
      (f_Mo_isOpen a0 x2 h).bind fun p1 =>
      if x1 = 5 then
        f_Mo_canAct_43 1 p1.1 p1.2
      else
        f_Mo_canAct_43 0 p1.1 p1.2
  else
    (ldR h 9 a0 1).bind fun v3 =>
    (rdA h v3 (43 + x2)).bind fun v4 =>
    if v4 = 0 then
      rtZ 1 h
    else
      rtZ 0 h
theorem t_Mo_canAct {d : Nat} (hd : 2 ≤ d) {a0 : Nat} {x1 : Int32} {x2 : Int32} {h : PH} {r : Int32 × PH} (hq : f_Mo_canAct a0 x1 x2 h = some r) : E d 0 0 m_Mo_canAct 0 [(0, .ref a0), (1, .int x1), (2, .int x2)] [] h (PI r) := by
  unfold f_Mo_canAct at hq
  obtain ⟨d, rfl⟩ : ∃ e, d = e + 1 := ⟨d - 1, by omega⟩
  refine E_iln 1 d_Mo_canAct_0 rfl rfl ?_
  refine E_ic (v := 3) d_Mo_canAct_1 (by decide) ?_
  refine E_jge (tgt := 23) d_Mo_canAct_2 (by decide) (fun c => ?_) (fun c => ?_)
  · rw [if_pos c] at hq
    refine E_iln 1 d_Mo_canAct_23 rfl rfl ?_
    refine E_ic (v := 3) d_Mo_canAct_24 (by decide) ?_
    refine E_jeq (tgt := 46) d_Mo_canAct_25 (by decide) (fun c => ?_) (fun c => ?_)
    · rw [if_pos c] at hq
      exact E_sub (ks := []) rfl <| t_Mo_canAct_46 (by omega) hq
    · rw [if_neg c] at hq
      refine E_aln 0 d_Mo_canAct_28 rfl rfl ?_
      refine E_iln 2 d_Mo_canAct_29 rfl rfl ?_
      obtain ⟨q2, eq2, hq⟩ := bd hq
      obtain ⟨p1, ep1, hq⟩ := bd hq
      refine E_cV1I d_Mo_canAct_30 ck_Mo_382 rfl rfl eq2 (Nat.le_of_ble_eq_true rfl) (Nat.le_of_ble_eq_true rfl) (t_Mo_isOpen (by omega) ep1) ?_
      refine E_iln 1 d_Mo_canAct_33 rfl rfl ?_
      refine E_ic (v := 5) d_Mo_canAct_34 (by decide) ?_
      refine E_jne (tgt := 42) d_Mo_canAct_35 (by decide) (fun c => ?_) (fun c => ?_)
      · rw [if_neg c] at hq
        refine E_ic (v := 0) d_Mo_canAct_42 (by decide) ?_
        exact E_sub (ks := []) rfl <| t_Mo_canAct_43 (by omega) hq
      · rw [if_pos c] at hq
        refine E_ic (v := 1) d_Mo_canAct_38 (by decide) ?_
        refine E_goto (tgt := 43) d_Mo_canAct_39 (by decide) ?_
        exact E_sub (ks := []) rfl <| t_Mo_canAct_43 (by omega) hq
  · rw [if_neg c] at hq
    refine E_aln 0 d_Mo_canAct_5 rfl rfl ?_
    obtain ⟨v3, ev3, hq⟩ := bd hq
    refine E_gR d_Mo_canAct_6 lk_Mo_7 rfl ev3 ?_
    refine E_bi (v := 43) d_Mo_canAct_9 (by decide) ?_
    refine E_iln 2 d_Mo_canAct_11 rfl rfl ?_
    refine E_iadd d_Mo_canAct_12 ?_
    obtain ⟨v4, ev4, hq⟩ := bd hq
    refine E_ra d_Mo_canAct_13 ev4 ?_
    refine E_zne (tgt := 21) d_Mo_canAct_14 (by decide) (fun c => ?_) (fun c => ?_)
    · rw [if_neg c] at hq
      refine E_ic (v := 0) d_Mo_canAct_21 (by decide) ?_
      exact E_rZ d_Mo_canAct_22 rfl hq
    · rw [if_pos c] at hq
      refine E_ic (v := 1) d_Mo_canAct_17 (by decide) ?_
      refine E_goto (tgt := 22) d_Mo_canAct_18 (by decide) ?_
      exact E_rZ d_Mo_canAct_22 rfl hq
def f_Mo_acts_113 (a0 : Nat) (x1 : Int32) (x2 : Int32) (h : PH) : Option (PH) :=
  if x1 = 5 then
    (ldR h 9 a0 1).bind fun v1 =>
    (ldR h 9 a0 1).bind fun v2 =>
    (rdA h v2 6).bind fun v3 =>
    (wrA h v1 6 (v3 ||| (jshl 1 x2))).bind fun h4 =>
    some h4
  else
    some h
theorem t_Mo_acts_113 {d : Nat} (hd : 1 ≤ d) {a0 : Nat} {x1 : Int32} {x2 : Int32} {h : PH} {r : PH} (hq : f_Mo_acts_113 a0 x1 x2 h = some r) : E d 0 0 m_Mo_acts 113 [(0, .ref a0), (1, .int x1), (2, .int x2)] [] h (PV r) := by
  unfold f_Mo_acts_113 at hq
  obtain ⟨d, rfl⟩ : ∃ e, d = e + 1 := ⟨d - 1, by omega⟩
  refine E_iln 1 d_Mo_acts_113 rfl rfl ?_
  refine E_ic (v := 5) d_Mo_acts_114 (by decide) ?_
  refine E_jne (tgt := 136) d_Mo_acts_115 (by decide) (fun c => ?_) (fun c => ?_)
  · rw [if_neg c] at hq
    exact E_rV d_Mo_acts_136 rfl hq
  · rw [if_pos c] at hq
    refine E_aln 0 d_Mo_acts_118 rfl rfl ?_
    obtain ⟨v1, ev1, hq⟩ := bd hq
    refine E_gR d_Mo_acts_119 lk_Mo_7 rfl ev1 ?_
    refine E_bi (v := 6) d_Mo_acts_122 (by decide) ?_
    refine E_aln 0 d_Mo_acts_124 rfl rfl ?_
    obtain ⟨v2, ev2, hq⟩ := bd hq
    refine E_gR d_Mo_acts_125 lk_Mo_7 rfl ev2 ?_
    refine E_bi (v := 6) d_Mo_acts_128 (by decide) ?_
    obtain ⟨v3, ev3, hq⟩ := bd hq
    refine E_ra d_Mo_acts_130 ev3 ?_
    refine E_ic (v := 1) d_Mo_acts_131 (by decide) ?_
    refine E_iln 2 d_Mo_acts_132 rfl rfl ?_
    refine E_ishl d_Mo_acts_133 ?_
    refine E_ior d_Mo_acts_134 ?_
    obtain ⟨h4, eh4, hq⟩ := bd hq
    refine E_wa d_Mo_acts_135 eh4 ?_
    exact E_rV d_Mo_acts_136 rfl hq
def f_Mo_acts_88 (a0 : Nat) (x1 : Int32) (x2 : Int32) (h : PH) : Option (PH) :=
  if x1 = 4 then
    (ldR h 9 a0 1).bind fun v1 =>
    (ldR h 9 a0 1).bind fun v2 =>
    (rdA h v2 6).bind fun v3 =>
    (wrA h v1 6 (v3 &&& ((jshl 1 x2) ^^^ (-1)))).bind fun h4 =>
    f_Mo_acts_113 a0 x1 x2 h4
  else
    f_Mo_acts_113 a0 x1 x2 h
theorem t_Mo_acts_88 {d : Nat} (hd : 1 ≤ d) {a0 : Nat} {x1 : Int32} {x2 : Int32} {h : PH} {r : PH} (hq : f_Mo_acts_88 a0 x1 x2 h = some r) : E d 0 0 m_Mo_acts 88 [(0, .ref a0), (1, .int x1), (2, .int x2)] [] h (PV r) := by
  unfold f_Mo_acts_88 at hq
  obtain ⟨d, rfl⟩ : ∃ e, d = e + 1 := ⟨d - 1, by omega⟩
  refine E_iln 1 d_Mo_acts_88 rfl rfl ?_
  refine E_ic (v := 4) d_Mo_acts_89 (by decide) ?_
  refine E_jne (tgt := 113) d_Mo_acts_90 (by decide) (fun c => ?_) (fun c => ?_)
  · rw [if_neg c] at hq
    exact t_Mo_acts_113 (by omega) hq
  · rw [if_pos c] at hq
    refine E_aln 0 d_Mo_acts_93 rfl rfl ?_
    obtain ⟨v1, ev1, hq⟩ := bd hq
    refine E_gR d_Mo_acts_94 lk_Mo_7 rfl ev1 ?_
    refine E_bi (v := 6) d_Mo_acts_97 (by decide) ?_
    refine E_aln 0 d_Mo_acts_99 rfl rfl ?_
    obtain ⟨v2, ev2, hq⟩ := bd hq
    refine E_gR d_Mo_acts_100 lk_Mo_7 rfl ev2 ?_
    refine E_bi (v := 6) d_Mo_acts_103 (by decide) ?_
    obtain ⟨v3, ev3, hq⟩ := bd hq
    refine E_ra d_Mo_acts_105 ev3 ?_
    refine E_ic (v := 1) d_Mo_acts_106 (by decide) ?_
    refine E_iln 2 d_Mo_acts_107 rfl rfl ?_
    refine E_ishl d_Mo_acts_108 ?_
    refine E_ic (v := (-1)) d_Mo_acts_109 (by decide) ?_
    refine E_ixor d_Mo_acts_110 ?_
    refine E_iand d_Mo_acts_111 ?_
    obtain ⟨h4, eh4, hq⟩ := bd hq
    refine E_wa d_Mo_acts_112 eh4 ?_
    exact t_Mo_acts_113 (by omega) hq
def f_Mo_acts_73 (a0 : Nat) (x1 : Int32) (x2 : Int32) (x3 : Int32) (h : PH) : Option (PH) :=
  if x1 = 3 then
    (ldR h 9 a0 1).bind fun v1 =>
    (wrA h v1 (67 + x2) x3).bind fun h2 =>
    f_Mo_acts_88 a0 x1 x2 h2
  else
    f_Mo_acts_88 a0 x1 x2 h
theorem t_Mo_acts_73 {d : Nat} (hd : 1 ≤ d) {a0 : Nat} {x1 : Int32} {x2 : Int32} {x3 : Int32} {h : PH} {r : PH} (hq : f_Mo_acts_73 a0 x1 x2 x3 h = some r) : E d 0 0 m_Mo_acts 73 [(0, .ref a0), (1, .int x1), (2, .int x2), (3, .int x3)] [] h (PV r) := by
  unfold f_Mo_acts_73 at hq
  obtain ⟨d, rfl⟩ : ∃ e, d = e + 1 := ⟨d - 1, by omega⟩
  refine E_iln 1 d_Mo_acts_73 rfl rfl ?_
  refine E_ic (v := 3) d_Mo_acts_74 (by decide) ?_
  refine E_jne (tgt := 88) d_Mo_acts_75 (by decide) (fun c => ?_) (fun c => ?_)
  · rw [if_neg c] at hq
    exact E_sub (ks := [0, 1, 2]) rfl <| t_Mo_acts_88 (by omega) hq
  · rw [if_pos c] at hq
    refine E_aln 0 d_Mo_acts_78 rfl rfl ?_
    obtain ⟨v1, ev1, hq⟩ := bd hq
    refine E_gR d_Mo_acts_79 lk_Mo_7 rfl ev1 ?_
    refine E_bi (v := 67) d_Mo_acts_82 (by decide) ?_
    refine E_iln 2 d_Mo_acts_84 rfl rfl ?_
    refine E_iadd d_Mo_acts_85 ?_
    refine E_iln 3 d_Mo_acts_86 rfl rfl ?_
    obtain ⟨h2, eh2, hq⟩ := bd hq
    refine E_wa d_Mo_acts_87 eh2 ?_
    exact E_sub (ks := [0, 1, 2]) rfl <| t_Mo_acts_88 (by omega) hq
def f_Mo_acts_41 (a0 : Nat) (x1 : Int32) (x2 : Int32) (x3 : Int32) (h : PH) : Option (PH) :=
  if x1 = 2 then
    (ldR h 9 a0 1).bind fun v1 =>
    (ldR h 9 a0 1).bind fun v2 =>
    (rdA h v2 (19 + x2)).bind fun v3 =>
    (isO h 9 a0).bind fun _ =>
    (f_Mo_lesser a0 99 (v3 + 20) h).bind fun p4 =>
    (wrA p4.2 v1 (19 + x2) p4.1).bind fun h6 =>
    f_Mo_acts_73 a0 x1 x2 x3 h6
  else
    f_Mo_acts_73 a0 x1 x2 x3 h
theorem t_Mo_acts_41 {d : Nat} (hd : 1 ≤ d) {a0 : Nat} {x1 : Int32} {x2 : Int32} {x3 : Int32} {h : PH} {r : PH} (hq : f_Mo_acts_41 a0 x1 x2 x3 h = some r) : E d 0 0 m_Mo_acts 41 [(0, .ref a0), (1, .int x1), (2, .int x2), (3, .int x3)] [] h (PV r) := by
  unfold f_Mo_acts_41 at hq
  obtain ⟨d, rfl⟩ : ∃ e, d = e + 1 := ⟨d - 1, by omega⟩
  refine E_iln 1 d_Mo_acts_41 rfl rfl ?_
  refine E_ic (v := 2) d_Mo_acts_42 (by decide) ?_
  refine E_jne (tgt := 73) d_Mo_acts_43 (by decide) (fun c => ?_) (fun c => ?_)
  · rw [if_neg c] at hq
    exact t_Mo_acts_73 (by omega) hq
  · rw [if_pos c] at hq
    refine E_aln 0 d_Mo_acts_46 rfl rfl ?_
    obtain ⟨v1, ev1, hq⟩ := bd hq
    refine E_gR d_Mo_acts_47 lk_Mo_7 rfl ev1 ?_
    refine E_bi (v := 19) d_Mo_acts_50 (by decide) ?_
    refine E_iln 2 d_Mo_acts_52 rfl rfl ?_
    refine E_iadd d_Mo_acts_53 ?_
    refine E_aln 0 d_Mo_acts_54 rfl rfl ?_
    refine E_bi (v := 99) d_Mo_acts_55 (by decide) ?_
    refine E_aln 0 d_Mo_acts_57 rfl rfl ?_
    obtain ⟨v2, ev2, hq⟩ := bd hq
    refine E_gR d_Mo_acts_58 lk_Mo_7 rfl ev2 ?_
    refine E_bi (v := 19) d_Mo_acts_61 (by decide) ?_
    refine E_iln 2 d_Mo_acts_63 rfl rfl ?_
    refine E_iadd d_Mo_acts_64 ?_
    obtain ⟨v3, ev3, hq⟩ := bd hq
    refine E_ra d_Mo_acts_65 ev3 ?_
    refine E_bi (v := 20) d_Mo_acts_66 (by decide) ?_
    refine E_iadd d_Mo_acts_68 ?_
    obtain ⟨q5, eq5, hq⟩ := bd hq
    obtain ⟨p4, ep4, hq⟩ := bd hq
    refine E_cV2I d_Mo_acts_69 ck_Mo_369 rfl rfl eq5 (Nat.le_of_ble_eq_true rfl) (Nat.le_of_ble_eq_true rfl) (t_Mo_lesser (by omega) ep4) ?_
    obtain ⟨h6, eh6, hq⟩ := bd hq
    refine E_wa d_Mo_acts_72 eh6 ?_
    exact t_Mo_acts_73 (by omega) hq
def f_Mo_acts_16 (a0 : Nat) (x1 : Int32) (x2 : Int32) (x3 : Int32) (h : PH) : Option (PH) :=
  if x1 = 1 then
    (ldR h 9 a0 1).bind fun v1 =>
    (ldR h 9 a0 1).bind fun v2 =>
    (rdA h v2 (19 + x2)).bind fun v3 =>
    (dvI v3 2).bind fun v4 =>
    (wrA h v1 (19 + x2) v4).bind fun h5 =>
    f_Mo_acts_41 a0 x1 x2 x3 h5
  else
    f_Mo_acts_41 a0 x1 x2 x3 h
theorem t_Mo_acts_16 {d : Nat} (hd : 1 ≤ d) {a0 : Nat} {x1 : Int32} {x2 : Int32} {x3 : Int32} {h : PH} {r : PH} (hq : f_Mo_acts_16 a0 x1 x2 x3 h = some r) : E d 0 0 m_Mo_acts 16 [(0, .ref a0), (1, .int x1), (2, .int x2), (3, .int x3)] [] h (PV r) := by
  unfold f_Mo_acts_16 at hq
  obtain ⟨d, rfl⟩ : ∃ e, d = e + 1 := ⟨d - 1, by omega⟩
  refine E_iln 1 d_Mo_acts_16 rfl rfl ?_
  refine E_ic (v := 1) d_Mo_acts_17 (by decide) ?_
  refine E_jne (tgt := 41) d_Mo_acts_18 (by decide) (fun c => ?_) (fun c => ?_)
  · rw [if_neg c] at hq
    exact t_Mo_acts_41 (by omega) hq
  · rw [if_pos c] at hq
    refine E_aln 0 d_Mo_acts_21 rfl rfl ?_
    obtain ⟨v1, ev1, hq⟩ := bd hq
    refine E_gR d_Mo_acts_22 lk_Mo_7 rfl ev1 ?_
    refine E_bi (v := 19) d_Mo_acts_25 (by decide) ?_
    refine E_iln 2 d_Mo_acts_27 rfl rfl ?_
    refine E_iadd d_Mo_acts_28 ?_
    refine E_aln 0 d_Mo_acts_29 rfl rfl ?_
    obtain ⟨v2, ev2, hq⟩ := bd hq
    refine E_gR d_Mo_acts_30 lk_Mo_7 rfl ev2 ?_
    refine E_bi (v := 19) d_Mo_acts_33 (by decide) ?_
    refine E_iln 2 d_Mo_acts_35 rfl rfl ?_
    refine E_iadd d_Mo_acts_36 ?_
    obtain ⟨v3, ev3, hq⟩ := bd hq
    refine E_ra d_Mo_acts_37 ev3 ?_
    refine E_ic (v := 2) d_Mo_acts_38 (by decide) ?_
    obtain ⟨v4, ev4, hq⟩ := bd hq
    refine E_dv d_Mo_acts_39 ev4 ?_
    obtain ⟨h5, eh5, hq⟩ := bd hq
    refine E_wa d_Mo_acts_40 eh5 ?_
    exact t_Mo_acts_41 (by omega) hq
def f_Mo_acts (a0 : Nat) (x1 : Int32) (x2 : Int32) (x3 : Int32) (h : PH) : Option (PH) :=
  if x1 = 0 then
    (ldR h 9 a0 1).bind fun v1 =>
    (wrA h v1 (31 + x2) (x3 + 1)).bind fun h2 =>
    f_Mo_acts_16 a0 x1 x2 x3 h2
  else
    f_Mo_acts_16 a0 x1 x2 x3 h
theorem t_Mo_acts {d : Nat} (hd : 1 ≤ d) {a0 : Nat} {x1 : Int32} {x2 : Int32} {x3 : Int32} {h : PH} {r : PH} (hq : f_Mo_acts a0 x1 x2 x3 h = some r) : E d 0 0 m_Mo_acts 0 [(0, .ref a0), (1, .int x1), (2, .int x2), (3, .int x3)] [] h (PV r) := by
  unfold f_Mo_acts at hq
  obtain ⟨d, rfl⟩ : ∃ e, d = e + 1 := ⟨d - 1, by omega⟩
  refine E_iln 1 d_Mo_acts_0 rfl rfl ?_
  refine E_zne (tgt := 16) d_Mo_acts_1 (by decide) (fun c => ?_) (fun c => ?_)
  · rw [if_neg c] at hq
    exact t_Mo_acts_16 (by omega) hq
  · rw [if_pos c] at hq
    refine E_aln 0 d_Mo_acts_4 rfl rfl ?_
    obtain ⟨v1, ev1, hq⟩ := bd hq
    refine E_gR d_Mo_acts_5 lk_Mo_7 rfl ev1 ?_
    refine E_bi (v := 31) d_Mo_acts_8 (by decide) ?_
    refine E_iln 2 d_Mo_acts_10 rfl rfl ?_
    refine E_iadd d_Mo_acts_11 ?_
    refine E_iln 3 d_Mo_acts_12 rfl rfl ?_
    refine E_ic (v := 1) d_Mo_acts_13 (by decide) ?_
    refine E_iadd d_Mo_acts_14 ?_
    obtain ⟨h2, eh2, hq⟩ := bd hq
    refine E_wa d_Mo_acts_15 eh2 ?_
    exact t_Mo_acts_16 (by omega) hq
def f_Mo_act_74 (a0 : Nat) (x1 : Int32) (x2 : Int32) (x3 : Int32) (h : PH) : Option (Int32 × PH) :=
  (isO h 9 a0).bind fun _ =>
  (f_Mo_canAct a0 x1 x2 h).bind fun p1 =>
  if p1.1 = 0 then
    rtZ 0 p1.2
  else
    (isO p1.2 9 a0).bind fun _ =>
    (f_Mo_keepsAhead a0  p1.2).bind fun h3 =>
    (isO h3 9 a0).bind fun _ =>
    (f_Mo_acts a0 x1 x2 x3 h3).bind fun h5 =>
    rtZ 1 h5
theorem t_Mo_act_74 {d : Nat} (hd : 3 ≤ d) {a0 : Nat} {x1 : Int32} {x2 : Int32} {x3 : Int32} {h : PH} {r : Int32 × PH} (hq : f_Mo_act_74 a0 x1 x2 x3 h = some r) : E d 0 0 m_Mo_act 74 [(0, .ref a0), (1, .int x1), (2, .int x2), (3, .int x3)] [] h (PI r) := by
  unfold f_Mo_act_74 at hq
  obtain ⟨d, rfl⟩ : ∃ e, d = e + 1 := ⟨d - 1, by omega⟩
  refine E_aln 0 d_Mo_act_74 rfl rfl ?_
  refine E_iln 1 d_Mo_act_75 rfl rfl ?_
  refine E_iln 2 d_Mo_act_76 rfl rfl ?_
  obtain ⟨q2, eq2, hq⟩ := bd hq
  obtain ⟨p1, ep1, hq⟩ := bd hq
  refine E_cV2I d_Mo_act_77 ck_Mo_385 rfl rfl eq2 (Nat.le_of_ble_eq_true rfl) (Nat.le_of_ble_eq_true rfl) (t_Mo_canAct (by omega) ep1) ?_
  refine E_zne (tgt := 85) d_Mo_act_80 (by decide) (fun c => ?_) (fun c => ?_)
  · rw [if_neg c] at hq
    refine E_aln 0 d_Mo_act_85 rfl rfl ?_
    obtain ⟨q4, eq4, hq⟩ := bd hq
    obtain ⟨h3, eh3, hq⟩ := bd hq
    refine E_cV0V d_Mo_act_86 ck_Mo_376 rfl rfl eq4 (Nat.le_of_ble_eq_true rfl) (Nat.le_of_ble_eq_true rfl) (t_Mo_keepsAhead (by omega) eh3) ?_
    refine E_aln 0 d_Mo_act_89 rfl rfl ?_
    refine E_iln 1 d_Mo_act_90 rfl rfl ?_
    refine E_iln 2 d_Mo_act_91 rfl rfl ?_
    refine E_iln 3 d_Mo_act_92 rfl rfl ?_
    obtain ⟨q6, eq6, hq⟩ := bd hq
    obtain ⟨h5, eh5, hq⟩ := bd hq
    refine E_cV3V d_Mo_act_93 ck_Mo_388 rfl rfl eq6 (Nat.le_of_ble_eq_true rfl) (Nat.le_of_ble_eq_true rfl) (t_Mo_acts (by omega) eh5) ?_
    refine E_ic (v := 1) d_Mo_act_96 (by decide) ?_
    exact E_rZ d_Mo_act_97 rfl hq
  · rw [if_pos c] at hq
    refine E_ic (v := 0) d_Mo_act_83 (by decide) ?_
    exact E_rZ d_Mo_act_84 rfl hq
def f_Mo_act_66 (a0 : Nat) (x1 : Int32) (x2 : Int32) (x3 : Int32) (h : PH) : Option (Int32 × PH) :=
  (isO h 9 a0).bind fun _ =>
  (f_Mo_isGate a0 x3 h).bind fun p1 =>
  if p1.1 = 0 then
    rtZ 0 p1.2
  else
    f_Mo_act_74 a0 x1 x2 x3 p1.2
theorem t_Mo_act_66 {d : Nat} (hd : 3 ≤ d) {a0 : Nat} {x1 : Int32} {x2 : Int32} {x3 : Int32} {h : PH} {r : Int32 × PH} (hq : f_Mo_act_66 a0 x1 x2 x3 h = some r) : E d 0 0 m_Mo_act 66 [(0, .ref a0), (1, .int x1), (2, .int x2), (3, .int x3)] [] h (PI r) := by
  unfold f_Mo_act_66 at hq
  obtain ⟨d, rfl⟩ : ∃ e, d = e + 1 := ⟨d - 1, by omega⟩
  refine E_aln 0 d_Mo_act_66 rfl rfl ?_
  refine E_iln 3 d_Mo_act_67 rfl rfl ?_
  obtain ⟨q2, eq2, hq⟩ := bd hq
  obtain ⟨p1, ep1, hq⟩ := bd hq
  refine E_cV1I d_Mo_act_68 ck_Mo_166 rfl rfl eq2 (Nat.le_of_ble_eq_true rfl) (Nat.le_of_ble_eq_true rfl) (t_Mo_isGate (by omega) ep1) ?_
  refine E_zeq (tgt := 83) d_Mo_act_71 (by decide) (fun c => ?_) (fun c => ?_)
  · rw [if_pos c] at hq
    refine E_ic (v := 0) d_Mo_act_83 (by decide) ?_
    exact E_rZ d_Mo_act_84 rfl hq
  · rw [if_neg c] at hq
    exact t_Mo_act_74 (by omega) hq
def f_Mo_act_57 (a0 : Nat) (x1 : Int32) (x2 : Int32) (x3 : Int32) (h : PH) : Option (Int32 × PH) :=
  if x1 = 0 then
    f_Mo_act_66 a0 x1 x2 x3 h
  else
    if x1 = 3 then
      f_Mo_act_66 a0 x1 x2 x3 h
    else
      f_Mo_act_74 a0 x1 x2 x3 h
theorem t_Mo_act_57 {d : Nat} (hd : 3 ≤ d) {a0 : Nat} {x1 : Int32} {x2 : Int32} {x3 : Int32} {h : PH} {r : Int32 × PH} (hq : f_Mo_act_57 a0 x1 x2 x3 h = some r) : E d 0 0 m_Mo_act 57 [(0, .ref a0), (1, .int x1), (2, .int x2), (3, .int x3)] [] h (PI r) := by
  unfold f_Mo_act_57 at hq
  obtain ⟨d, rfl⟩ : ∃ e, d = e + 1 := ⟨d - 1, by omega⟩
  refine E_iln 1 d_Mo_act_57 rfl rfl ?_
  refine E_zeq (tgt := 66) d_Mo_act_58 (by decide) (fun c => ?_) (fun c => ?_)
  · rw [if_pos c] at hq
    exact t_Mo_act_66 (by omega) hq
  · rw [if_neg c] at hq
    refine E_iln 1 d_Mo_act_61 rfl rfl ?_
    refine E_ic (v := 3) d_Mo_act_62 (by decide) ?_
    refine E_jne (tgt := 74) d_Mo_act_63 (by decide) (fun c => ?_) (fun c => ?_)
    · rw [if_neg c] at hq
      exact t_Mo_act_74 (by omega) hq
    · rw [if_pos c] at hq
      exact t_Mo_act_66 (by omega) hq
def f_Mo_act (a0 : Nat) (x1 : Int32) (x2 : Int32) (x3 : Int32) (h : PH) : Option (Int32 × PH) :=
  (stI h 9 a0 0 0).bind fun h1 =>
  (isO h1 9 a0).bind fun _ =>
  (f_Mo_isIn a0 x1 0 5 h1).bind fun p2 =>
  if p2.1 = 0 then
    rtZ 0 p2.2
  else
    if 3 ≤ x1 then
      if x1 = 3 then
        (isO p2.2 9 a0).bind fun _ =>
        (f_Mo_isOfficer a0 x2 p2.2).bind fun p6 =>
        if p6.1 = 0 then
          rtZ 0 p6.2
        else
          f_Mo_act_57 a0 x1 x2 x3 p6.2
      else
        (isO p2.2 9 a0).bind fun _ =>
        (f_Mo_isGate a0 x2 p2.2).bind fun p4 =>
        if p4.1 = 0 then
          rtZ 0 p4.2
        else
          f_Mo_act_57 a0 x1 x2 x3 p4.2
    else
      (isO p2.2 9 a0).bind fun _ =>
      (f_Mo_isTraveller a0 x2 p2.2).bind fun p8 =>
      if p8.1 = 0 then
        rtZ 0 p8.2
      else
        f_Mo_act_57 a0 x1 x2 x3 p8.2
theorem t_Mo_act {d : Nat} (hd : 3 ≤ d) {a0 : Nat} {x1 : Int32} {x2 : Int32} {x3 : Int32} {h : PH} {r : Int32 × PH} (hq : f_Mo_act a0 x1 x2 x3 h = some r) : E d 0 0 m_Mo_act 0 [(0, .ref a0), (1, .int x1), (2, .int x2), (3, .int x3)] [] h (PI r) := by
  unfold f_Mo_act at hq
  obtain ⟨d, rfl⟩ : ∃ e, d = e + 1 := ⟨d - 1, by omega⟩
  refine E_aln 0 d_Mo_act_0 rfl rfl ?_
  refine E_ic (v := 0) d_Mo_act_1 (by decide) ?_
  obtain ⟨h1, eh1, hq⟩ := bd hq
  refine E_pI d_Mo_act_2 lp_Mo_m_140 rfl eh1 ?_
  refine E_aln 0 d_Mo_act_5 rfl rfl ?_
  refine E_iln 1 d_Mo_act_6 rfl rfl ?_
  refine E_ic (v := 0) d_Mo_act_7 (by decide) ?_
  refine E_ic (v := 5) d_Mo_act_8 (by decide) ?_
  obtain ⟨q3, eq3, hq⟩ := bd hq
  obtain ⟨p2, ep2, hq⟩ := bd hq
  refine E_cV3I d_Mo_act_9 ck_Mo_162 rfl rfl eq3 (Nat.le_of_ble_eq_true rfl) (Nat.le_of_ble_eq_true rfl) (t_Mo_isIn (by omega) ep2) ?_
  refine E_zeq (tgt := 55) d_Mo_act_12 (by decide) (fun c => ?_) (fun c => ?_)
  · rw [if_pos c] at hq
    refine E_ic (v := 0) d_Mo_act_55 (by decide) ?_
    exact E_rZ d_Mo_act_56 rfl hq
  · rw [if_neg c] at hq
    refine E_iln 1 d_Mo_act_15 rfl rfl ?_
    refine E_ic (v := 3) d_Mo_act_16 (by decide) ?_
    refine E_jge (tgt := 31) d_Mo_act_17 (by decide) (fun c => ?_) (fun c => ?_)
    · rw [if_pos c] at hq
      refine E_iln 1 d_Mo_act_31 rfl rfl ?_
      refine E_ic (v := 3) d_Mo_act_32 (by decide) ?_
      refine E_jne (tgt := 47) d_Mo_act_33 (by decide) (fun c => ?_) (fun c => ?_)
      · rw [if_neg c] at hq
        refine E_aln 0 d_Mo_act_47 rfl rfl ?_
        refine E_iln 2 d_Mo_act_48 rfl rfl ?_
        obtain ⟨q5, eq5, hq⟩ := bd hq
        obtain ⟨p4, ep4, hq⟩ := bd hq
        refine E_cV1I d_Mo_act_49 ck_Mo_166 rfl rfl eq5 (Nat.le_of_ble_eq_true rfl) (Nat.le_of_ble_eq_true rfl) (t_Mo_isGate (by omega) ep4) ?_
        refine E_zne (tgt := 57) d_Mo_act_52 (by decide) (fun c => ?_) (fun c => ?_)
        · rw [if_neg c] at hq
          exact t_Mo_act_57 (by omega) hq
        · rw [if_pos c] at hq
          refine E_ic (v := 0) d_Mo_act_55 (by decide) ?_
          exact E_rZ d_Mo_act_56 rfl hq
      · rw [if_pos c] at hq
        refine E_aln 0 d_Mo_act_36 rfl rfl ?_
        refine E_iln 2 d_Mo_act_37 rfl rfl ?_
        obtain ⟨q7, eq7, hq⟩ := bd hq
        obtain ⟨p6, ep6, hq⟩ := bd hq
        refine E_cV1I d_Mo_act_38 ck_Mo_173 rfl rfl eq7 (Nat.le_of_ble_eq_true rfl) (Nat.le_of_ble_eq_true rfl) (t_Mo_isOfficer (by omega) ep6) ?_
        refine E_zeq (tgt := 55) d_Mo_act_41 (by decide) (fun c => ?_) (fun c => ?_)
        · rw [if_pos c] at hq
          refine E_ic (v := 0) d_Mo_act_55 (by decide) ?_
          exact E_rZ d_Mo_act_56 rfl hq
        · rw [if_neg c] at hq
          refine E_goto (tgt := 57) d_Mo_act_44 (by decide) ?_
          exact t_Mo_act_57 (by omega) hq
    · rw [if_neg c] at hq
      refine E_aln 0 d_Mo_act_20 rfl rfl ?_
      refine E_iln 2 d_Mo_act_21 rfl rfl ?_
      obtain ⟨q9, eq9, hq⟩ := bd hq
      obtain ⟨p8, ep8, hq⟩ := bd hq
      refine E_cV1I d_Mo_act_22 ck_Mo_170 rfl rfl eq9 (Nat.le_of_ble_eq_true rfl) (Nat.le_of_ble_eq_true rfl) (t_Mo_isTraveller (by omega) ep8) ?_
      refine E_zeq (tgt := 55) d_Mo_act_25 (by decide) (fun c => ?_) (fun c => ?_)
      · rw [if_pos c] at hq
        refine E_ic (v := 0) d_Mo_act_55 (by decide) ?_
        exact E_rZ d_Mo_act_56 rfl hq
      · rw [if_neg c] at hq
        refine E_goto (tgt := 57) d_Mo_act_28 (by decide) ?_
        exact t_Mo_act_57 (by omega) hq
def f_Mo_actOf (a0 : Nat) (x1 : Int32) (h : PH) : Option (Int32 × PH) :=
  if x1 = 0 then
    some (0, h)
  else
    if x1 = 5 then
      some (1, h)
    else
      if x1 = 6 then
        some (2, h)
      else
        if x1 = 4 then
          some (3, h)
        else
          if x1 = 2 then
            some (4, h)
          else
            some (5, h)
theorem t_Mo_actOf {d : Nat} (hd : 0 ≤ d) {a0 : Nat} {x1 : Int32} {h : PH} {r : Int32 × PH} (hq : f_Mo_actOf a0 x1 h = some r) : E d 0 0 m_Mo_actOf 0 [(0, .ref a0), (1, .int x1)] [] h (PI r) := by
  unfold f_Mo_actOf at hq
  refine E_iln 1 d_Mo_actOf_0 rfl rfl ?_
  refine E_zne (tgt := 8) d_Mo_actOf_1 (by decide) (fun c => ?_) (fun c => ?_)
  · rw [if_neg c] at hq
    refine E_iln 1 d_Mo_actOf_8 rfl rfl ?_
    refine E_ic (v := 5) d_Mo_actOf_9 (by decide) ?_
    refine E_jne (tgt := 17) d_Mo_actOf_10 (by decide) (fun c => ?_) (fun c => ?_)
    · rw [if_neg c] at hq
      refine E_iln 1 d_Mo_actOf_17 rfl rfl ?_
      refine E_bi (v := 6) d_Mo_actOf_18 (by decide) ?_
      refine E_jne (tgt := 27) d_Mo_actOf_20 (by decide) (fun c => ?_) (fun c => ?_)
      · rw [if_neg c] at hq
        refine E_iln 1 d_Mo_actOf_27 rfl rfl ?_
        refine E_ic (v := 4) d_Mo_actOf_28 (by decide) ?_
        refine E_jne (tgt := 36) d_Mo_actOf_29 (by decide) (fun c => ?_) (fun c => ?_)
        · rw [if_neg c] at hq
          refine E_iln 1 d_Mo_actOf_36 rfl rfl ?_
          refine E_ic (v := 2) d_Mo_actOf_37 (by decide) ?_
          refine E_jne (tgt := 45) d_Mo_actOf_38 (by decide) (fun c => ?_) (fun c => ?_)
          · rw [if_neg c] at hq
            refine E_ic (v := 5) d_Mo_actOf_45 (by decide) ?_
            exact E_rI d_Mo_actOf_46 rfl hq
          · rw [if_pos c] at hq
            refine E_ic (v := 4) d_Mo_actOf_41 (by decide) ?_
            refine E_goto (tgt := 46) d_Mo_actOf_42 (by decide) ?_
            exact E_rI d_Mo_actOf_46 rfl hq
        · rw [if_pos c] at hq
          refine E_ic (v := 3) d_Mo_actOf_32 (by decide) ?_
          refine E_goto (tgt := 46) d_Mo_actOf_33 (by decide) ?_
          exact E_rI d_Mo_actOf_46 rfl hq
      · rw [if_pos c] at hq
        refine E_ic (v := 2) d_Mo_actOf_23 (by decide) ?_
        refine E_goto (tgt := 46) d_Mo_actOf_24 (by decide) ?_
        exact E_rI d_Mo_actOf_46 rfl hq
    · rw [if_pos c] at hq
      refine E_ic (v := 1) d_Mo_actOf_13 (by decide) ?_
      refine E_goto (tgt := 46) d_Mo_actOf_14 (by decide) ?_
      exact E_rI d_Mo_actOf_46 rfl hq
  · rw [if_pos c] at hq
    refine E_ic (v := 0) d_Mo_actOf_4 (by decide) ?_
    refine E_goto (tgt := 46) d_Mo_actOf_5 (by decide) ?_
    exact E_rI d_Mo_actOf_46 rfl hq
def f_Mo_does (a0 : Nat) (x1 : Int32) (h : PH) : Option (PH) :=
  (ldR h 9 a0 39).bind fun v1 =>
  (rdA h v1 (x1 + 1)).bind fun v2 =>
  (isO h 9 a0).bind fun _ =>
  (f_Mo_actOf a0 v2 h).bind fun p3 =>
  (ldR p3.2 9 a0 39).bind fun v5 =>
  (rdA p3.2 v5 (x1 + 2)).bind fun v6 =>
  (isO p3.2 9 a0).bind fun _ =>
  (f_Mo_canAct a0 p3.1 v6 p3.2).bind fun p7 =>
  if p7.1 = 0 then
    some p7.2
  else
    (ldR p7.2 9 a0 39).bind fun v9 =>
    (rdA p7.2 v9 (x1 + 2)).bind fun v10 =>
    (ldR p7.2 9 a0 39).bind fun v11 =>
    (rdA p7.2 v11 (x1 + 3)).bind fun v12 =>
    (isO p7.2 9 a0).bind fun _ =>
    (f_Mo_acts a0 p3.1 v10 v12 p7.2).bind fun h13 =>
    some h13
theorem t_Mo_does {d : Nat} (hd : 3 ≤ d) {a0 : Nat} {x1 : Int32} {h : PH} {r : PH} (hq : f_Mo_does a0 x1 h = some r) : E d 0 0 m_Mo_does 0 [(0, .ref a0), (1, .int x1)] [] h (PV r) := by
  unfold f_Mo_does at hq
  obtain ⟨d, rfl⟩ : ∃ e, d = e + 1 := ⟨d - 1, by omega⟩
  refine E_aln 0 d_Mo_does_0 rfl rfl ?_
  refine E_aln 0 d_Mo_does_1 rfl rfl ?_
  obtain ⟨v1, ev1, hq⟩ := bd hq
  refine E_gR d_Mo_does_2 lk_Mo_71 rfl ev1 ?_
  refine E_iln 1 d_Mo_does_5 rfl rfl ?_
  refine E_ic (v := 1) d_Mo_does_6 (by decide) ?_
  refine E_iadd d_Mo_does_7 ?_
  obtain ⟨v2, ev2, hq⟩ := bd hq
  refine E_ra d_Mo_does_8 ev2 ?_
  obtain ⟨q4, eq4, hq⟩ := bd hq
  obtain ⟨p3, ep3, hq⟩ := bd hq
  refine E_cV1I d_Mo_does_9 ck_Mo_391 rfl rfl eq4 (Nat.le_of_ble_eq_true rfl) (Nat.le_of_ble_eq_true rfl) (t_Mo_actOf (by omega) ep3) ?_
  refine E_isn (ls' := [(2, .int p3.1), (0, .ref a0), (1, .int x1)]) d_Mo_does_12 (Nat.le_of_ble_eq_true rfl) rfl ?_
  refine E_aln 1 d_Mo_does_13 rfl rfl ?_
  refine E_iln 0 d_Mo_does_14 rfl rfl ?_
  refine E_aln 1 d_Mo_does_15 rfl rfl ?_
  obtain ⟨v5, ev5, hq⟩ := bd hq
  refine E_gR d_Mo_does_16 lk_Mo_71 rfl ev5 ?_
  refine E_iln 2 d_Mo_does_19 rfl rfl ?_
  refine E_ic (v := 2) d_Mo_does_20 (by decide) ?_
  refine E_iadd d_Mo_does_21 ?_
  obtain ⟨v6, ev6, hq⟩ := bd hq
  refine E_ra d_Mo_does_22 ev6 ?_
  obtain ⟨q8, eq8, hq⟩ := bd hq
  obtain ⟨p7, ep7, hq⟩ := bd hq
  refine E_cV2I d_Mo_does_23 ck_Mo_385 rfl rfl eq8 (Nat.le_of_ble_eq_true rfl) (Nat.le_of_ble_eq_true rfl) (t_Mo_canAct (by omega) ep7) ?_
  refine E_zeq (tgt := 50) d_Mo_does_26 (by decide) (fun c => ?_) (fun c => ?_)
  · rw [if_pos c] at hq
    exact E_rV d_Mo_does_50 rfl hq
  · rw [if_neg c] at hq
    refine E_aln 1 d_Mo_does_29 rfl rfl ?_
    refine E_iln 0 d_Mo_does_30 rfl rfl ?_
    refine E_aln 1 d_Mo_does_31 rfl rfl ?_
    obtain ⟨v9, ev9, hq⟩ := bd hq
    refine E_gR d_Mo_does_32 lk_Mo_71 rfl ev9 ?_
    refine E_iln 2 d_Mo_does_35 rfl rfl ?_
    refine E_ic (v := 2) d_Mo_does_36 (by decide) ?_
    refine E_iadd d_Mo_does_37 ?_
    obtain ⟨v10, ev10, hq⟩ := bd hq
    refine E_ra d_Mo_does_38 ev10 ?_
    refine E_aln 1 d_Mo_does_39 rfl rfl ?_
    obtain ⟨v11, ev11, hq⟩ := bd hq
    refine E_gR d_Mo_does_40 lk_Mo_71 rfl ev11 ?_
    refine E_iln 2 d_Mo_does_43 rfl rfl ?_
    refine E_ic (v := 3) d_Mo_does_44 (by decide) ?_
    refine E_iadd d_Mo_does_45 ?_
    obtain ⟨v12, ev12, hq⟩ := bd hq
    refine E_ra d_Mo_does_46 ev12 ?_
    obtain ⟨q14, eq14, hq⟩ := bd hq
    obtain ⟨h13, eh13, hq⟩ := bd hq
    refine E_cV3V d_Mo_does_47 ck_Mo_388 rfl rfl eq14 (Nat.le_of_ble_eq_true rfl) (Nat.le_of_ble_eq_true rfl) (t_Mo_acts (by omega) eh13) ?_
    exact E_rV d_Mo_does_50 rfl hq
def f_Mo_nextAt_2 : Nat → Nat → Int32 → Int32 → Int32 → PH → Option (Int32 × PH)
  | 0, _, _, _, _, _ => none
  | n + 1, a0, x1, x2, x3, h =>
    (ldI h 9 a0 6).bind fun v1 =>
    if v1 ≤ x3 then
      some ((-1), h)
    else
      (ldR h 9 a0 1).bind fun v2 =>
      (rdA h v2 (31 + x3)).bind fun v3 =>
      if v3 = (x1 + 1) then
        (ldR h 9 a0 1).bind fun v4 =>
        (rdA h v4 (43 + x3)).bind fun v5 =>
        if v5 = 0 then
          (isO h 9 a0).bind fun _ =>
          (f_Mo_has a0 x2 x3 h).bind fun p6 =>
          if p6.1 = 0 then
            some (x3, p6.2)
          else
            f_Mo_nextAt_2 n a0 x1 x2 (x3 + 1) p6.2
        else
          f_Mo_nextAt_2 n a0 x1 x2 (x3 + 1) h
      else
        f_Mo_nextAt_2 n a0 x1 x2 (x3 + 1) h
theorem t_Mo_nextAt_2 {d : Nat} (hd : 1 ≤ d) : ∀ (n : Nat) (a0 : Nat) (x1 : Int32) (x2 : Int32) (x3 : Int32) (h : PH) (r : Int32 × PH), f_Mo_nextAt_2 n a0 x1 x2 x3 h = some r → E d 0 0 m_Mo_nextAt 2 [(0, .ref a0), (1, .int x1), (2, .int x2), (3, .int x3)] [] h (PI r) := by
  intro n
  induction n with
  | zero => intro a0 x1 x2 x3 h r hq; rw [f_Mo_nextAt_2] at hq; cases hq
  | succ n ih =>
    intro a0 x1 x2 x3 h r hq
    rw [f_Mo_nextAt_2] at hq
    obtain ⟨d, rfl⟩ : ∃ e, d = e + 1 := ⟨d - 1, by omega⟩
    refine E_iln 3 d_Mo_nextAt_2 rfl rfl ?_
    refine E_aln 0 d_Mo_nextAt_3 rfl rfl ?_
    obtain ⟨v1, ev1, hq⟩ := bd hq
    refine E_gI d_Mo_nextAt_4 lk_Mo_152 rfl ev1 ?_
    refine E_jge (tgt := 54) d_Mo_nextAt_7 (by decide) (fun c => ?_) (fun c => ?_)
    · rw [if_pos c] at hq
      refine E_ic (v := (-1)) d_Mo_nextAt_54 (by decide) ?_
      exact E_rI d_Mo_nextAt_55 rfl hq
    · rw [if_neg c] at hq
      refine E_aln 0 d_Mo_nextAt_10 rfl rfl ?_
      obtain ⟨v2, ev2, hq⟩ := bd hq
      refine E_gR d_Mo_nextAt_11 lk_Mo_7 rfl ev2 ?_
      refine E_bi (v := 31) d_Mo_nextAt_14 (by decide) ?_
      refine E_iln 3 d_Mo_nextAt_16 rfl rfl ?_
      refine E_iadd d_Mo_nextAt_17 ?_
      obtain ⟨v3, ev3, hq⟩ := bd hq
      refine E_ra d_Mo_nextAt_18 ev3 ?_
      refine E_iln 1 d_Mo_nextAt_19 rfl rfl ?_
      refine E_ic (v := 1) d_Mo_nextAt_20 (by decide) ?_
      refine E_iadd d_Mo_nextAt_21 ?_
      refine E_jne (tgt := 48) d_Mo_nextAt_22 (by decide) (fun c => ?_) (fun c => ?_)
      · rw [if_neg c] at hq
        refine E_inc (v := 1) (ls' := [(3, .int (x3 + 1)), (0, .ref a0), (1, .int x1), (2, .int x2)]) 3 d_Mo_nextAt_48 rfl (Nat.le_of_ble_eq_true rfl) (by decide) rfl ?_
        refine E_goto (tgt := 2) d_Mo_nextAt_51 (by decide) ?_
        exact E_sub (ks := [1, 2, 3, 0]) rfl <| ih _ _ _ _ _ _ hq
      · rw [if_pos c] at hq
        refine E_aln 0 d_Mo_nextAt_25 rfl rfl ?_
        obtain ⟨v4, ev4, hq⟩ := bd hq
        refine E_gR d_Mo_nextAt_26 lk_Mo_7 rfl ev4 ?_
        refine E_bi (v := 43) d_Mo_nextAt_29 (by decide) ?_
        refine E_iln 3 d_Mo_nextAt_31 rfl rfl ?_
        refine E_iadd d_Mo_nextAt_32 ?_
        obtain ⟨v5, ev5, hq⟩ := bd hq
        refine E_ra d_Mo_nextAt_33 ev5 ?_
        refine E_zne (tgt := 48) d_Mo_nextAt_34 (by decide) (fun c => ?_) (fun c => ?_)
        · rw [if_neg c] at hq
          refine E_inc (v := 1) (ls' := [(3, .int (x3 + 1)), (0, .ref a0), (1, .int x1), (2, .int x2)]) 3 d_Mo_nextAt_48 rfl (Nat.le_of_ble_eq_true rfl) (by decide) rfl ?_
          refine E_goto (tgt := 2) d_Mo_nextAt_51 (by decide) ?_
          exact E_sub (ks := [1, 2, 3, 0]) rfl <| ih _ _ _ _ _ _ hq
        · rw [if_pos c] at hq
          refine E_aln 0 d_Mo_nextAt_37 rfl rfl ?_
          refine E_iln 2 d_Mo_nextAt_38 rfl rfl ?_
          refine E_iln 3 d_Mo_nextAt_39 rfl rfl ?_
          obtain ⟨q7, eq7, hq⟩ := bd hq
          obtain ⟨p6, ep6, hq⟩ := bd hq
          refine E_cV2I d_Mo_nextAt_40 ck_Mo_158 rfl rfl eq7 (Nat.le_of_ble_eq_true rfl) (Nat.le_of_ble_eq_true rfl) (t_Mo_has (by omega) ep6) ?_
          refine E_zne (tgt := 48) d_Mo_nextAt_43 (by decide) (fun c => ?_) (fun c => ?_)
          · rw [if_neg c] at hq
            refine E_inc (v := 1) (ls' := [(3, .int (x3 + 1)), (0, .ref a0), (1, .int x1), (2, .int x2)]) 3 d_Mo_nextAt_48 rfl (Nat.le_of_ble_eq_true rfl) (by decide) rfl ?_
            refine E_goto (tgt := 2) d_Mo_nextAt_51 (by decide) ?_
            exact E_sub (ks := [1, 2, 3, 0]) rfl <| ih _ _ _ _ _ _ hq
          · rw [if_pos c] at hq
            refine E_iln 3 d_Mo_nextAt_46 rfl rfl ?_
            exact E_rI d_Mo_nextAt_47 rfl hq
def f_Mo_nextAt (a0 : Nat) (x1 : Int32) (x2 : Int32) (h : PH) : Option (Int32 × PH) :=
  f_Mo_nextAt_2 FU a0 x1 x2 0 h
theorem t_Mo_nextAt {d : Nat} (hd : 1 ≤ d) {a0 : Nat} {x1 : Int32} {x2 : Int32} {h : PH} {r : Int32 × PH} (hq : f_Mo_nextAt a0 x1 x2 h = some r) : E d 0 0 m_Mo_nextAt 0 [(0, .ref a0), (1, .int x1), (2, .int x2)] [] h (PI r) := by
  unfold f_Mo_nextAt at hq
  obtain ⟨d, rfl⟩ : ∃ e, d = e + 1 := ⟨d - 1, by omega⟩
  refine E_ic (v := 0) d_Mo_nextAt_0 (by decide) ?_
  refine E_isn (ls' := [(3, .int 0), (0, .ref a0), (1, .int x1), (2, .int x2)]) d_Mo_nextAt_1 (Nat.le_of_ble_eq_true rfl) rfl ?_
  exact E_sub (ks := [1, 2, 3, 0]) rfl <| t_Mo_nextAt_2 (by omega) _ _ _ _ _ _ _ hq
def f_Mo_weepOf (a0 : Nat) (x1 : Int32) (h : PH) : Option (Int32 × PH) :=
  (isO h 9 a0).bind fun _ =>
  (f_Mo_asks a0 x1 (-1) h).bind fun h1 =>
  (ldR h1 9 a0 9).bind fun v3 =>
  (rdA h1 v3 x1).bind fun v4 =>
  (isO h1 9 a0).bind fun _ =>
  (f_Mo_lawTells a0 0 (9 - v4) 99 h1).bind fun p5 =>
  some (p5.1, p5.2)
theorem t_Mo_weepOf {d : Nat} (hd : 4 ≤ d) {a0 : Nat} {x1 : Int32} {h : PH} {r : Int32 × PH} (hq : f_Mo_weepOf a0 x1 h = some r) : E d 0 0 m_Mo_weepOf 0 [(0, .ref a0), (1, .int x1)] [] h (PI r) := by
  unfold f_Mo_weepOf at hq
  obtain ⟨d, rfl⟩ : ∃ e, d = e + 1 := ⟨d - 1, by omega⟩
  refine E_aln 0 d_Mo_weepOf_0 rfl rfl ?_
  refine E_iln 1 d_Mo_weepOf_1 rfl rfl ?_
  refine E_ic (v := (-1)) d_Mo_weepOf_2 (by decide) ?_
  obtain ⟨q2, eq2, hq⟩ := bd hq
  obtain ⟨h1, eh1, hq⟩ := bd hq
  refine E_cV2V d_Mo_weepOf_3 ck_Mo_354 rfl rfl eq2 (Nat.le_of_ble_eq_true rfl) (Nat.le_of_ble_eq_true rfl) (t_Mo_asks (by omega) eh1) ?_
  refine E_aln 0 d_Mo_weepOf_6 rfl rfl ?_
  refine E_ic (v := 0) d_Mo_weepOf_7 (by decide) ?_
  refine E_bi (v := 9) d_Mo_weepOf_8 (by decide) ?_
  refine E_aln 0 d_Mo_weepOf_10 rfl rfl ?_
  obtain ⟨v3, ev3, hq⟩ := bd hq
  refine E_gR d_Mo_weepOf_11 lk_Mo_22 rfl ev3 ?_
  refine E_iln 1 d_Mo_weepOf_14 rfl rfl ?_
  obtain ⟨v4, ev4, hq⟩ := bd hq
  refine E_ra d_Mo_weepOf_15 ev4 ?_
  refine E_isub d_Mo_weepOf_16 ?_
  refine E_bi (v := 99) d_Mo_weepOf_17 (by decide) ?_
  obtain ⟨q6, eq6, hq⟩ := bd hq
  obtain ⟨p5, ep5, hq⟩ := bd hq
  refine E_cV3I d_Mo_weepOf_19 ck_Mo_357 rfl rfl eq6 (Nat.le_of_ble_eq_true rfl) (Nat.le_of_ble_eq_true rfl) (t_Mo_lawTells (by omega) ep5) ?_
  exact E_rI d_Mo_weepOf_22 rfl hq
def f_Mo_goesBy_235 : Nat → Nat → Int32 → Int32 → Int32 → PH → Option (Int32 × PH)
  | 0, _, _, _, _, _ => none
  | n + 1, a0, x2, x4, x5, h =>
    (ldI h 9 a0 7).bind fun v1 =>
    if v1 ≤ x5 then
      (ldR h 9 a0 1).bind fun v2 =>
      (ldR h 9 a0 1).bind fun v3 =>
      (rdA h v3 0).bind fun v4 =>
      (wrA h v2 0 (v4 + 1)).bind fun h5 =>
      some (x4, h5)
    else
      (isO h 9 a0).bind fun _ =>
      (f_Mo_has a0 x2 x5 h).bind fun p6 =>
      if p6.1 = 0 then
        (ldR p6.2 9 a0 1).bind fun v8 =>
        (ldR p6.2 9 a0 1).bind fun v9 =>
        (rdA p6.2 v9 (73 + x5)).bind fun v10 =>
        (isO p6.2 9 a0).bind fun _ =>
        (f_Mo_greater a0 0 (v10 - 1) p6.2).bind fun p11 =>
        (wrA p11.2 v8 (73 + x5) p11.1).bind fun h13 =>
        f_Mo_goesBy_235 n a0 x2 x4 (x5 + 1) h13
      else
        f_Mo_goesBy_235 n a0 x2 x4 (x5 + 1) p6.2
theorem t_Mo_goesBy_235 {d : Nat} (hd : 6 ≤ d) : ∀ (n : Nat) (a0 : Nat) (x2 : Int32) (x4 : Int32) (x5 : Int32) (h : PH) (r : Int32 × PH), f_Mo_goesBy_235 n a0 x2 x4 x5 h = some r → E d 0 0 m_Mo_goesBy 235 [(0, .ref a0), (2, .int x2), (4, .int x4), (5, .int x5)] [] h (PI r) := by
  intro n
  induction n with
  | zero => intro a0 x2 x4 x5 h r hq; rw [f_Mo_goesBy_235] at hq; cases hq
  | succ n ih =>
    intro a0 x2 x4 x5 h r hq
    rw [f_Mo_goesBy_235] at hq
    obtain ⟨d, rfl⟩ : ∃ e, d = e + 1 := ⟨d - 1, by omega⟩
    refine E_il 3 d_Mo_goesBy_235 rfl ?_
    refine E_aln 0 d_Mo_goesBy_237 rfl rfl ?_
    obtain ⟨v1, ev1, hq⟩ := bd hq
    refine E_gI d_Mo_goesBy_238 lk_Mo_155 rfl ev1 ?_
    refine E_jge (tgt := 287) d_Mo_goesBy_241 (by decide) (fun c => ?_) (fun c => ?_)
    · rw [if_pos c] at hq
      refine E_aln 0 d_Mo_goesBy_287 rfl rfl ?_
      obtain ⟨v2, ev2, hq⟩ := bd hq
      refine E_gR d_Mo_goesBy_288 lk_Mo_7 rfl ev2 ?_
      refine E_ic (v := 0) d_Mo_goesBy_291 (by decide) ?_
      refine E_aln 0 d_Mo_goesBy_292 rfl rfl ?_
      obtain ⟨v3, ev3, hq⟩ := bd hq
      refine E_gR d_Mo_goesBy_293 lk_Mo_7 rfl ev3 ?_
      refine E_ic (v := 0) d_Mo_goesBy_296 (by decide) ?_
      obtain ⟨v4, ev4, hq⟩ := bd hq
      refine E_ra d_Mo_goesBy_297 ev4 ?_
      refine E_ic (v := 1) d_Mo_goesBy_298 (by decide) ?_
      refine E_iadd d_Mo_goesBy_299 ?_
      obtain ⟨h5, eh5, hq⟩ := bd hq
      refine E_wa d_Mo_goesBy_300 eh5 ?_
      refine E_il 2 d_Mo_goesBy_301 rfl ?_
      exact E_rI d_Mo_goesBy_303 rfl hq
    · rw [if_neg c] at hq
      refine E_aln 0 d_Mo_goesBy_244 rfl rfl ?_
      refine E_iln 1 d_Mo_goesBy_245 rfl rfl ?_
      refine E_il 3 d_Mo_goesBy_246 rfl ?_
      obtain ⟨q7, eq7, hq⟩ := bd hq
      obtain ⟨p6, ep6, hq⟩ := bd hq
      refine E_cV2I d_Mo_goesBy_248 ck_Mo_158 rfl rfl eq7 (Nat.le_of_ble_eq_true rfl) (Nat.le_of_ble_eq_true rfl) (t_Mo_has (by omega) ep6) ?_
      refine E_zne (tgt := 281) d_Mo_goesBy_251 (by decide) (fun c => ?_) (fun c => ?_)
      · rw [if_neg c] at hq
        refine E_inc (v := 1) (ls' := [(5, .int (x5 + 1)), (0, .ref a0), (2, .int x2), (4, .int x4)]) 3 d_Mo_goesBy_281 rfl (Nat.le_of_ble_eq_true rfl) (by decide) rfl ?_
        refine E_goto (tgt := 235) d_Mo_goesBy_284 (by decide) ?_
        exact E_sub (ks := [1, 2, 3, 0]) rfl <| ih _ _ _ _ _ _ hq
      · rw [if_pos c] at hq
        refine E_aln 0 d_Mo_goesBy_254 rfl rfl ?_
        obtain ⟨v8, ev8, hq⟩ := bd hq
        refine E_gR d_Mo_goesBy_255 lk_Mo_7 rfl ev8 ?_
        refine E_bi (v := 73) d_Mo_goesBy_258 (by decide) ?_
        refine E_il 3 d_Mo_goesBy_260 rfl ?_
        refine E_iadd d_Mo_goesBy_262 ?_
        refine E_aln 0 d_Mo_goesBy_263 rfl rfl ?_
        refine E_ic (v := 0) d_Mo_goesBy_264 (by decide) ?_
        refine E_aln 0 d_Mo_goesBy_265 rfl rfl ?_
        obtain ⟨v9, ev9, hq⟩ := bd hq
        refine E_gR d_Mo_goesBy_266 lk_Mo_7 rfl ev9 ?_
        refine E_bi (v := 73) d_Mo_goesBy_269 (by decide) ?_
        refine E_il 3 d_Mo_goesBy_271 rfl ?_
        refine E_iadd d_Mo_goesBy_273 ?_
        obtain ⟨v10, ev10, hq⟩ := bd hq
        refine E_ra d_Mo_goesBy_274 ev10 ?_
        refine E_ic (v := 1) d_Mo_goesBy_275 (by decide) ?_
        refine E_isub d_Mo_goesBy_276 ?_
        obtain ⟨q12, eq12, hq⟩ := bd hq
        obtain ⟨p11, ep11, hq⟩ := bd hq
        refine E_cV2I d_Mo_goesBy_277 ck_Mo_339 rfl rfl eq12 (Nat.le_of_ble_eq_true rfl) (Nat.le_of_ble_eq_true rfl) (t_Mo_greater (by omega) ep11) ?_
        obtain ⟨h13, eh13, hq⟩ := bd hq
        refine E_wa d_Mo_goesBy_280 eh13 ?_
        refine E_inc (v := 1) (ls' := [(5, .int (x5 + 1)), (0, .ref a0), (2, .int x2), (4, .int x4)]) 3 d_Mo_goesBy_281 rfl (Nat.le_of_ble_eq_true rfl) (by decide) rfl ?_
        refine E_goto (tgt := 235) d_Mo_goesBy_284 (by decide) ?_
        exact E_sub (ks := [1, 2, 3, 0]) rfl <| ih _ _ _ _ _ _ hq
def f_Mo_goesBy_171 : Nat → Nat → Int32 → Int32 → Int32 → PH → Option (Int32 × PH)
  | 0, _, _, _, _, _ => none
  | n + 1, a0, x2, x4, x5, h =>
    (ldI h 9 a0 6).bind fun v1 =>
    if v1 ≤ x5 then
      f_Mo_goesBy_235 FU a0 x2 x4 0 h
    else
      (ldR h 9 a0 1).bind fun v2 =>
      (rdA h v2 (43 + x5)).bind fun v3 =>
      if v3 = 0 then
        (ldR h 9 a0 1).bind fun v4 =>
        (ldR h 9 a0 1).bind fun v5 =>
        (rdA h v5 (19 + x5)).bind fun v6 =>
        (isO h 9 a0).bind fun _ =>
        (f_Mo_weepOf a0 x5 h).bind fun p7 =>
        (isO p7.2 9 a0).bind fun _ =>
        (f_Mo_lesser a0 99 (v6 + p7.1) p7.2).bind fun p9 =>
        (wrA p9.2 v4 (19 + x5) p9.1).bind fun h11 =>
        f_Mo_goesBy_171 n a0 x2 x4 (x5 + 1) h11
      else
        f_Mo_goesBy_171 n a0 x2 x4 (x5 + 1) h
theorem t_Mo_goesBy_171 {d : Nat} (hd : 6 ≤ d) : ∀ (n : Nat) (a0 : Nat) (x2 : Int32) (x4 : Int32) (x5 : Int32) (h : PH) (r : Int32 × PH), f_Mo_goesBy_171 n a0 x2 x4 x5 h = some r → E d 0 0 m_Mo_goesBy 171 [(0, .ref a0), (2, .int x2), (4, .int x4), (5, .int x5)] [] h (PI r) := by
  intro n
  induction n with
  | zero => intro a0 x2 x4 x5 h r hq; rw [f_Mo_goesBy_171] at hq; cases hq
  | succ n ih =>
    intro a0 x2 x4 x5 h r hq
    rw [f_Mo_goesBy_171] at hq
    obtain ⟨d, rfl⟩ : ∃ e, d = e + 1 := ⟨d - 1, by omega⟩
    refine E_il 3 d_Mo_goesBy_171 rfl ?_
    refine E_aln 0 d_Mo_goesBy_173 rfl rfl ?_
    obtain ⟨v1, ev1, hq⟩ := bd hq
    refine E_gI d_Mo_goesBy_174 lk_Mo_152 rfl ev1 ?_
    refine E_jge (tgt := 232) d_Mo_goesBy_177 (by decide) (fun c => ?_) (fun c => ?_)
    · rw [if_pos c] at hq
      refine E_ic (v := 0) d_Mo_goesBy_232 (by decide) ?_
      refine E_is (ls' := [(5, .int 0), (0, .ref a0), (2, .int x2), (4, .int x4)]) d_Mo_goesBy_233 (Nat.le_of_ble_eq_true rfl) rfl ?_
      exact E_sub (ks := [1, 2, 3, 0]) rfl <| t_Mo_goesBy_235 (by omega) _ _ _ _ _ _ _ hq
    · rw [if_neg c] at hq
      refine E_aln 0 d_Mo_goesBy_180 rfl rfl ?_
      obtain ⟨v2, ev2, hq⟩ := bd hq
      refine E_gR d_Mo_goesBy_181 lk_Mo_7 rfl ev2 ?_
      refine E_bi (v := 43) d_Mo_goesBy_184 (by decide) ?_
      refine E_il 3 d_Mo_goesBy_186 rfl ?_
      refine E_iadd d_Mo_goesBy_188 ?_
      obtain ⟨v3, ev3, hq⟩ := bd hq
      refine E_ra d_Mo_goesBy_189 ev3 ?_
      refine E_zne (tgt := 226) d_Mo_goesBy_190 (by decide) (fun c => ?_) (fun c => ?_)
      · rw [if_neg c] at hq
        refine E_inc (v := 1) (ls' := [(5, .int (x5 + 1)), (0, .ref a0), (2, .int x2), (4, .int x4)]) 3 d_Mo_goesBy_226 rfl (Nat.le_of_ble_eq_true rfl) (by decide) rfl ?_
        refine E_goto (tgt := 171) d_Mo_goesBy_229 (by decide) ?_
        exact E_sub (ks := [1, 2, 3, 0]) rfl <| ih _ _ _ _ _ _ hq
      · rw [if_pos c] at hq
        refine E_aln 0 d_Mo_goesBy_193 rfl rfl ?_
        obtain ⟨v4, ev4, hq⟩ := bd hq
        refine E_gR d_Mo_goesBy_194 lk_Mo_7 rfl ev4 ?_
        refine E_bi (v := 19) d_Mo_goesBy_197 (by decide) ?_
        refine E_il 3 d_Mo_goesBy_199 rfl ?_
        refine E_iadd d_Mo_goesBy_201 ?_
        refine E_aln 0 d_Mo_goesBy_202 rfl rfl ?_
        refine E_bi (v := 99) d_Mo_goesBy_203 (by decide) ?_
        refine E_aln 0 d_Mo_goesBy_205 rfl rfl ?_
        obtain ⟨v5, ev5, hq⟩ := bd hq
        refine E_gR d_Mo_goesBy_206 lk_Mo_7 rfl ev5 ?_
        refine E_bi (v := 19) d_Mo_goesBy_209 (by decide) ?_
        refine E_il 3 d_Mo_goesBy_211 rfl ?_
        refine E_iadd d_Mo_goesBy_213 ?_
        obtain ⟨v6, ev6, hq⟩ := bd hq
        refine E_ra d_Mo_goesBy_214 ev6 ?_
        refine E_aln 0 d_Mo_goesBy_215 rfl rfl ?_
        refine E_il 3 d_Mo_goesBy_216 rfl ?_
        obtain ⟨q8, eq8, hq⟩ := bd hq
        obtain ⟨p7, ep7, hq⟩ := bd hq
        refine E_cV1I d_Mo_goesBy_218 ck_Mo_400 rfl rfl eq8 (Nat.le_of_ble_eq_true rfl) (Nat.le_of_ble_eq_true rfl) (t_Mo_weepOf (by omega) ep7) ?_
        refine E_iadd d_Mo_goesBy_221 ?_
        obtain ⟨q10, eq10, hq⟩ := bd hq
        obtain ⟨p9, ep9, hq⟩ := bd hq
        refine E_cV2I d_Mo_goesBy_222 ck_Mo_369 rfl rfl eq10 (Nat.le_of_ble_eq_true rfl) (Nat.le_of_ble_eq_true rfl) (t_Mo_lesser (by omega) ep9) ?_
        obtain ⟨h11, eh11, hq⟩ := bd hq
        refine E_wa d_Mo_goesBy_225 eh11 ?_
        refine E_inc (v := 1) (ls' := [(5, .int (x5 + 1)), (0, .ref a0), (2, .int x2), (4, .int x4)]) 3 d_Mo_goesBy_226 rfl (Nat.le_of_ble_eq_true rfl) (by decide) rfl ?_
        refine E_goto (tgt := 171) d_Mo_goesBy_229 (by decide) ?_
        exact E_sub (ks := [1, 2, 3, 0]) rfl <| ih _ _ _ _ _ _ hq
def f_Mo_goesBy_116 (k56 : Nat → Int32 → Int32 → Int32 → Int32 → PH → Option (Int32 × PH)) (a0 : Nat) (x1 : Int32) (x2 : Int32) (x3 : Int32) (x4 : Int32) (s0 : Int32) (h : PH) : Option (Int32 × PH) :=
  if s0 = (-1) then
    k56 a0 x1 x2 x3 (x4 + 1) h
  else
    (isO h 9 a0).bind fun _ =>
    (f_Mo_weighs a0 s0 x4 h).bind fun p1 =>
    k56 a0 (x1 ||| (jshl 1 s0)) (x2 ||| (jshl 1 x4)) x3 (x4 + 1) p1.2
theorem t_Mo_goesBy_116 {d : Nat} (hd : 6 ≤ d) {k56 : Nat → Int32 → Int32 → Int32 → Int32 → PH → Option (Int32 × PH)} (hk56 : ∀ (a0 : Nat) (x1 : Int32) (x2 : Int32) (x3 : Int32) (x4 : Int32) (h : PH) (r : Int32 × PH), k56 a0 x1 x2 x3 x4 h = some r → E d 0 0 m_Mo_goesBy 56 [(0, .ref a0), (1, .int x1), (2, .int x2), (3, .int x3), (4, .int x4)] [] h (PI r)) {a0 : Nat} {x1 : Int32} {x2 : Int32} {x3 : Int32} {x4 : Int32} {s0 : Int32} {h : PH} {r : Int32 × PH} (hq : f_Mo_goesBy_116 k56 a0 x1 x2 x3 x4 s0 h = some r) : E d 0 0 m_Mo_goesBy 116 [(0, .ref a0), (1, .int x1), (2, .int x2), (3, .int x3), (4, .int x4)] [.int s0] h (PI r) := by
  unfold f_Mo_goesBy_116 at hq
  obtain ⟨d, rfl⟩ : ∃ e, d = e + 1 := ⟨d - 1, by omega⟩
  refine E_is (ls' := [(5, .int s0), (0, .ref a0), (1, .int x1), (2, .int x2), (3, .int x3), (4, .int x4)]) d_Mo_goesBy_116 (Nat.le_of_ble_eq_true rfl) rfl ?_
  refine E_il 0 d_Mo_goesBy_118 rfl ?_
  refine E_ic (v := (-1)) d_Mo_goesBy_120 (by decide) ?_
  refine E_jne (tgt := 127) d_Mo_goesBy_121 (by decide) (fun c => ?_) (fun c => ?_)
  · rw [if_neg c] at hq
    refine E_iln 2 d_Mo_goesBy_127 rfl rfl ?_
    refine E_ic (v := 1) d_Mo_goesBy_128 (by decide) ?_
    refine E_il 0 d_Mo_goesBy_129 rfl ?_
    refine E_ishl d_Mo_goesBy_131 ?_
    refine E_ior d_Mo_goesBy_132 ?_
    refine E_isn (ls' := [(1, .int (x1 ||| (jshl 1 s0))), (5, .int s0), (0, .ref a0), (2, .int x2), (3, .int x3), (4, .int x4)]) d_Mo_goesBy_133 (Nat.le_of_ble_eq_true rfl) rfl ?_
    refine E_iln 3 d_Mo_goesBy_134 rfl rfl ?_
    refine E_ic (v := 1) d_Mo_goesBy_135 (by decide) ?_
    refine E_il 5 d_Mo_goesBy_136 rfl ?_
    refine E_ishl d_Mo_goesBy_138 ?_
    refine E_ior d_Mo_goesBy_139 ?_
    refine E_isn (ls' := [(2, .int (x2 ||| (jshl 1 x4))), (1, .int (x1 ||| (jshl 1 s0))), (5, .int s0), (0, .ref a0), (3, .int x3), (4, .int x4)]) d_Mo_goesBy_140 (Nat.le_of_ble_eq_true rfl) rfl ?_
    refine E_aln 3 d_Mo_goesBy_141 rfl rfl ?_
    refine E_il 2 d_Mo_goesBy_142 rfl ?_
    refine E_il 5 d_Mo_goesBy_144 rfl ?_
    obtain ⟨q2, eq2, hq⟩ := bd hq
    obtain ⟨p1, ep1, hq⟩ := bd hq
    refine E_cV2I d_Mo_goesBy_146 ck_Mo_379 rfl rfl eq2 (Nat.le_of_ble_eq_true rfl) (Nat.le_of_ble_eq_true rfl) (t_Mo_weighs (by omega) ep1) ?_
    refine E_popi d_Mo_goesBy_149 ?_
    refine E_inc (v := 1) (ls' := [(4, .int (x4 + 1)), (2, .int (x2 ||| (jshl 1 x4))), (1, .int (x1 ||| (jshl 1 s0))), (5, .int s0), (0, .ref a0), (3, .int x3)]) 5 d_Mo_goesBy_150 rfl (Nat.le_of_ble_eq_true rfl) (by decide) rfl ?_
    refine E_goto (tgt := 56) d_Mo_goesBy_153 (by decide) ?_
    exact E_sub (ks := [4, 2, 1, 5, 0]) rfl <| hk56 _ _ _ _ _ _ _ hq
  · rw [if_pos c] at hq
    refine E_goto (tgt := 150) d_Mo_goesBy_124 (by decide) ?_
    refine E_inc (v := 1) (ls' := [(4, .int (x4 + 1)), (5, .int s0), (0, .ref a0), (1, .int x1), (2, .int x2), (3, .int x3)]) 5 d_Mo_goesBy_150 rfl (Nat.le_of_ble_eq_true rfl) (by decide) rfl ?_
    refine E_goto (tgt := 56) d_Mo_goesBy_153 (by decide) ?_
    exact E_sub (ks := [2, 3, 4, 5, 0]) rfl <| hk56 _ _ _ _ _ _ _ hq
def f_Mo_goesBy_115 (k56 : Nat → Int32 → Int32 → Int32 → Int32 → PH → Option (Int32 × PH)) (a0 : Nat) (x1 : Int32) (x2 : Int32) (x3 : Int32) (x4 : Int32) (h : PH) : Option (Int32 × PH) :=
  f_Mo_goesBy_116 k56 a0 x1 x2 x3 x4 (-1) h
theorem t_Mo_goesBy_115 {d : Nat} (hd : 6 ≤ d) {k56 : Nat → Int32 → Int32 → Int32 → Int32 → PH → Option (Int32 × PH)} (hk56 : ∀ (a0 : Nat) (x1 : Int32) (x2 : Int32) (x3 : Int32) (x4 : Int32) (h : PH) (r : Int32 × PH), k56 a0 x1 x2 x3 x4 h = some r → E d 0 0 m_Mo_goesBy 56 [(0, .ref a0), (1, .int x1), (2, .int x2), (3, .int x3), (4, .int x4)] [] h (PI r)) {a0 : Nat} {x1 : Int32} {x2 : Int32} {x3 : Int32} {x4 : Int32} {h : PH} {r : Int32 × PH} (hq : f_Mo_goesBy_115 k56 a0 x1 x2 x3 x4 h = some r) : E d 0 0 m_Mo_goesBy 115 [(0, .ref a0), (1, .int x1), (2, .int x2), (3, .int x3), (4, .int x4)] [] h (PI r) := by
  unfold f_Mo_goesBy_115 at hq
  obtain ⟨d, rfl⟩ : ∃ e, d = e + 1 := ⟨d - 1, by omega⟩
  refine E_ic (v := (-1)) d_Mo_goesBy_115 (by decide) ?_
  exact t_Mo_goesBy_116 (by omega) hk56 hq
def f_Mo_goesBy_56 : Nat → Nat → Int32 → Int32 → Int32 → Int32 → PH → Option (Int32 × PH)
  | 0, _, _, _, _, _, _ => none
  | n + 1, a0, x1, x2, x3, x4, h =>
    (ldI h 9 a0 7).bind fun v1 =>
    if v1 ≤ x4 then
      (isO h 9 a0).bind fun _ =>
      (f_Mo_outSet a0  h).bind fun p2 =>
      (isO p2.2 9 a0).bind fun _ =>
      (f_Mo_onesOf a0 p2.1 p2.2).bind fun p4 =>
      f_Mo_goesBy_171 FU a0 x2 (p4.1 - x3) 0 p4.2
    else
      (ldR h 9 a0 1).bind fun v6 =>
      (rdA h v6 (73 + x4)).bind fun v7 =>
      if 9 ≤ v7 then
        f_Mo_goesBy_115 (fun a0 x1 x2 x3 x4 h => f_Mo_goesBy_56 n a0 x1 x2 x3 x4 h) a0 x1 x2 x3 x4 h
      else
        (ldR h 9 a0 1).bind fun v8 =>
        (rdA h v8 (67 + x4)).bind fun v9 =>
        (isO h 9 a0).bind fun _ =>
        (f_Mo_isOpen a0 v9 h).bind fun p10 =>
        if p10.1 = 0 then
          f_Mo_goesBy_115 (fun a0 x1 x2 x3 x4 h => f_Mo_goesBy_56 n a0 x1 x2 x3 x4 h) a0 x1 x2 x3 x4 p10.2
        else
          (ldR p10.2 9 a0 1).bind fun v12 =>
          (rdA p10.2 v12 (67 + x4)).bind fun v13 =>
          (isO p10.2 9 a0).bind fun _ =>
          (f_Mo_nextAt a0 v13 x1 p10.2).bind fun p14 =>
          f_Mo_goesBy_116 (fun a0 x1 x2 x3 x4 h => f_Mo_goesBy_56 n a0 x1 x2 x3 x4 h) a0 x1 x2 x3 x4 p14.1 p14.2
theorem t_Mo_goesBy_56 {d : Nat} (hd : 6 ≤ d) : ∀ (n : Nat) (a0 : Nat) (x1 : Int32) (x2 : Int32) (x3 : Int32) (x4 : Int32) (h : PH) (r : Int32 × PH), f_Mo_goesBy_56 n a0 x1 x2 x3 x4 h = some r → E d 0 0 m_Mo_goesBy 56 [(0, .ref a0), (1, .int x1), (2, .int x2), (3, .int x3), (4, .int x4)] [] h (PI r) := by
  intro n
  induction n with
  | zero => intro a0 x1 x2 x3 x4 h r hq; rw [f_Mo_goesBy_56] at hq; cases hq
  | succ n ih =>
    intro a0 x1 x2 x3 x4 h r hq
    rw [f_Mo_goesBy_56] at hq
    obtain ⟨d, rfl⟩ : ∃ e, d = e + 1 := ⟨d - 1, by omega⟩
    refine E_il 4 d_Mo_goesBy_56 rfl ?_
    refine E_aln 0 d_Mo_goesBy_58 rfl rfl ?_
    obtain ⟨v1, ev1, hq⟩ := bd hq
    refine E_gI d_Mo_goesBy_59 lk_Mo_155 rfl ev1 ?_
    refine E_jge (tgt := 156) d_Mo_goesBy_62 (by decide) (fun c => ?_) (fun c => ?_)
    · rw [if_pos c] at hq
      refine E_aln 0 d_Mo_goesBy_156 rfl rfl ?_
      refine E_aln 0 d_Mo_goesBy_157 rfl rfl ?_
      obtain ⟨q3, eq3, hq⟩ := bd hq
      obtain ⟨p2, ep2, hq⟩ := bd hq
      refine E_cV0I d_Mo_goesBy_158 ck_Mo_342 rfl rfl eq3 (Nat.le_of_ble_eq_true rfl) (Nat.le_of_ble_eq_true rfl) (t_Mo_outSet (by omega) ep2) ?_
      obtain ⟨q5, eq5, hq⟩ := bd hq
      obtain ⟨p4, ep4, hq⟩ := bd hq
      refine E_cV1I d_Mo_goesBy_161 ck_Mo_345 rfl rfl eq5 (Nat.le_of_ble_eq_true rfl) (Nat.le_of_ble_eq_true rfl) (t_Mo_onesOf (by omega) ep4) ?_
      refine E_iln 3 d_Mo_goesBy_164 rfl rfl ?_
      refine E_isub d_Mo_goesBy_165 ?_
      refine E_is (ls' := [(4, .int (p4.1 - x3)), (0, .ref a0), (1, .int x1), (2, .int x2), (3, .int x3)]) d_Mo_goesBy_166 (Nat.le_of_ble_eq_true rfl) rfl ?_
      refine E_ic (v := 0) d_Mo_goesBy_168 (by decide) ?_
      refine E_is (ls' := [(5, .int 0), (4, .int (p4.1 - x3)), (0, .ref a0), (1, .int x1), (2, .int x2), (3, .int x3)]) d_Mo_goesBy_169 (Nat.le_of_ble_eq_true rfl) rfl ?_
      exact E_sub (ks := [2, 4, 1, 0]) rfl <| t_Mo_goesBy_171 (by omega) _ _ _ _ _ _ _ hq
    · rw [if_neg c] at hq
      refine E_aln 0 d_Mo_goesBy_65 rfl rfl ?_
      obtain ⟨v6, ev6, hq⟩ := bd hq
      refine E_gR d_Mo_goesBy_66 lk_Mo_7 rfl ev6 ?_
      refine E_bi (v := 73) d_Mo_goesBy_69 (by decide) ?_
      refine E_il 4 d_Mo_goesBy_71 rfl ?_
      refine E_iadd d_Mo_goesBy_73 ?_
      obtain ⟨v7, ev7, hq⟩ := bd hq
      refine E_ra d_Mo_goesBy_74 ev7 ?_
      refine E_bi (v := 9) d_Mo_goesBy_75 (by decide) ?_
      refine E_jge (tgt := 115) d_Mo_goesBy_77 (by decide) (fun c => ?_) (fun c => ?_)
      · rw [if_pos c] at hq
        exact t_Mo_goesBy_115 (by omega) ih hq
      · rw [if_neg c] at hq
        refine E_aln 0 d_Mo_goesBy_80 rfl rfl ?_
        refine E_aln 0 d_Mo_goesBy_81 rfl rfl ?_
        obtain ⟨v8, ev8, hq⟩ := bd hq
        refine E_gR d_Mo_goesBy_82 lk_Mo_7 rfl ev8 ?_
        refine E_bi (v := 67) d_Mo_goesBy_85 (by decide) ?_
        refine E_il 4 d_Mo_goesBy_87 rfl ?_
        refine E_iadd d_Mo_goesBy_89 ?_
        obtain ⟨v9, ev9, hq⟩ := bd hq
        refine E_ra d_Mo_goesBy_90 ev9 ?_
        obtain ⟨q11, eq11, hq⟩ := bd hq
        obtain ⟨p10, ep10, hq⟩ := bd hq
        refine E_cV1I d_Mo_goesBy_91 ck_Mo_382 rfl rfl eq11 (Nat.le_of_ble_eq_true rfl) (Nat.le_of_ble_eq_true rfl) (t_Mo_isOpen (by omega) ep10) ?_
        refine E_zeq (tgt := 115) d_Mo_goesBy_94 (by decide) (fun c => ?_) (fun c => ?_)
        · rw [if_pos c] at hq
          exact t_Mo_goesBy_115 (by omega) ih hq
        · rw [if_neg c] at hq
          refine E_aln 0 d_Mo_goesBy_97 rfl rfl ?_
          refine E_aln 0 d_Mo_goesBy_98 rfl rfl ?_
          obtain ⟨v12, ev12, hq⟩ := bd hq
          refine E_gR d_Mo_goesBy_99 lk_Mo_7 rfl ev12 ?_
          refine E_bi (v := 67) d_Mo_goesBy_102 (by decide) ?_
          refine E_il 4 d_Mo_goesBy_104 rfl ?_
          refine E_iadd d_Mo_goesBy_106 ?_
          obtain ⟨v13, ev13, hq⟩ := bd hq
          refine E_ra d_Mo_goesBy_107 ev13 ?_
          refine E_iln 1 d_Mo_goesBy_108 rfl rfl ?_
          obtain ⟨q15, eq15, hq⟩ := bd hq
          obtain ⟨p14, ep14, hq⟩ := bd hq
          refine E_cV2I d_Mo_goesBy_109 ck_Mo_397 rfl rfl eq15 (Nat.le_of_ble_eq_true rfl) (Nat.le_of_ble_eq_true rfl) (t_Mo_nextAt (by omega) ep14) ?_
          refine E_goto (tgt := 116) d_Mo_goesBy_112 (by decide) ?_
          exact t_Mo_goesBy_116 (by omega) ih hq
def f_Mo_goesBy_2 : Nat → Nat → Int32 → PH → Option (Int32 × PH)
  | 0, _, _, _ => none
  | n + 1, a0, x1, h =>
    (ldI h 9 a0 38).bind fun v1 =>
    if v1 ≤ x1 then
      (isO h 9 a0).bind fun _ =>
      (f_Mo_outSet a0  h).bind fun p2 =>
      (isO p2.2 9 a0).bind fun _ =>
      (f_Mo_onesOf a0 p2.1 p2.2).bind fun p4 =>
      f_Mo_goesBy_56 FU a0 0 0 p4.1 0 p4.2
    else
      (ldR h 9 a0 39).bind fun v6 =>
      (rdA h v6 (4 * x1)).bind fun v7 =>
      (ldR h 9 a0 1).bind fun v8 =>
      (rdA h v8 0).bind fun v9 =>
      if v7 = v9 then
        (isO h 9 a0).bind fun _ =>
        (f_Mo_does a0 (4 * x1) h).bind fun h10 =>
        f_Mo_goesBy_2 n a0 (x1 + 1) h10
      else
        f_Mo_goesBy_2 n a0 (x1 + 1) h
theorem t_Mo_goesBy_2 {d : Nat} (hd : 6 ≤ d) : ∀ (n : Nat) (a0 : Nat) (x1 : Int32) (h : PH) (r : Int32 × PH), f_Mo_goesBy_2 n a0 x1 h = some r → E d 0 0 m_Mo_goesBy 2 [(0, .ref a0), (1, .int x1)] [] h (PI r) := by
  intro n
  induction n with
  | zero => intro a0 x1 h r hq; rw [f_Mo_goesBy_2] at hq; cases hq
  | succ n ih =>
    intro a0 x1 h r hq
    rw [f_Mo_goesBy_2] at hq
    obtain ⟨d, rfl⟩ : ∃ e, d = e + 1 := ⟨d - 1, by omega⟩
    refine E_iln 1 d_Mo_goesBy_2 rfl rfl ?_
    refine E_aln 0 d_Mo_goesBy_3 rfl rfl ?_
    obtain ⟨v1, ev1, hq⟩ := bd hq
    refine E_gI d_Mo_goesBy_4 lk_Mo_315 rfl ev1 ?_
    refine E_jge (tgt := 40) d_Mo_goesBy_7 (by decide) (fun c => ?_) (fun c => ?_)
    · rw [if_pos c] at hq
      refine E_ic (v := 0) d_Mo_goesBy_40 (by decide) ?_
      refine E_isn (ls' := [(1, .int 0), (0, .ref a0)]) d_Mo_goesBy_41 (Nat.le_of_ble_eq_true rfl) rfl ?_
      refine E_ic (v := 0) d_Mo_goesBy_42 (by decide) ?_
      refine E_isn (ls' := [(2, .int 0), (1, .int 0), (0, .ref a0)]) d_Mo_goesBy_43 (Nat.le_of_ble_eq_true rfl) rfl ?_
      refine E_aln 2 d_Mo_goesBy_44 rfl rfl ?_
      refine E_aln 2 d_Mo_goesBy_45 rfl rfl ?_
      obtain ⟨q3, eq3, hq⟩ := bd hq
      obtain ⟨p2, ep2, hq⟩ := bd hq
      refine E_cV0I d_Mo_goesBy_46 ck_Mo_342 rfl rfl eq3 (Nat.le_of_ble_eq_true rfl) (Nat.le_of_ble_eq_true rfl) (t_Mo_outSet (by omega) ep2) ?_
      obtain ⟨q5, eq5, hq⟩ := bd hq
      obtain ⟨p4, ep4, hq⟩ := bd hq
      refine E_cV1I d_Mo_goesBy_49 ck_Mo_345 rfl rfl eq5 (Nat.le_of_ble_eq_true rfl) (Nat.le_of_ble_eq_true rfl) (t_Mo_onesOf (by omega) ep4) ?_
      refine E_isn (ls' := [(3, .int p4.1), (2, .int 0), (1, .int 0), (0, .ref a0)]) d_Mo_goesBy_52 (Nat.le_of_ble_eq_true rfl) rfl ?_
      refine E_ic (v := 0) d_Mo_goesBy_53 (by decide) ?_
      refine E_is (ls' := [(4, .int 0), (3, .int p4.1), (2, .int 0), (1, .int 0), (0, .ref a0)]) d_Mo_goesBy_54 (Nat.le_of_ble_eq_true rfl) rfl ?_
      exact E_sub (ks := [4, 3, 2, 1, 0]) rfl <| t_Mo_goesBy_56 (by omega) _ _ _ _ _ _ _ _ hq
    · rw [if_neg c] at hq
      refine E_aln 0 d_Mo_goesBy_10 rfl rfl ?_
      obtain ⟨v6, ev6, hq⟩ := bd hq
      refine E_gR d_Mo_goesBy_11 lk_Mo_71 rfl ev6 ?_
      refine E_ic (v := 4) d_Mo_goesBy_14 (by decide) ?_
      refine E_iln 1 d_Mo_goesBy_15 rfl rfl ?_
      refine E_imul d_Mo_goesBy_16 ?_
      obtain ⟨v7, ev7, hq⟩ := bd hq
      refine E_ra d_Mo_goesBy_17 ev7 ?_
      refine E_aln 0 d_Mo_goesBy_18 rfl rfl ?_
      obtain ⟨v8, ev8, hq⟩ := bd hq
      refine E_gR d_Mo_goesBy_19 lk_Mo_7 rfl ev8 ?_
      refine E_ic (v := 0) d_Mo_goesBy_22 (by decide) ?_
      obtain ⟨v9, ev9, hq⟩ := bd hq
      refine E_ra d_Mo_goesBy_23 ev9 ?_
      refine E_jne (tgt := 34) d_Mo_goesBy_24 (by decide) (fun c => ?_) (fun c => ?_)
      · rw [if_neg c] at hq
        refine E_inc (v := 1) (ls' := [(1, .int (x1 + 1)), (0, .ref a0)]) 1 d_Mo_goesBy_34 rfl (Nat.le_of_ble_eq_true rfl) (by decide) rfl ?_
        refine E_goto (tgt := 2) d_Mo_goesBy_37 (by decide) ?_
        exact E_sub (ks := [1, 0]) rfl <| ih _ _ _ _ hq
      · rw [if_pos c] at hq
        refine E_aln 0 d_Mo_goesBy_27 rfl rfl ?_
        refine E_ic (v := 4) d_Mo_goesBy_28 (by decide) ?_
        refine E_iln 1 d_Mo_goesBy_29 rfl rfl ?_
        refine E_imul d_Mo_goesBy_30 ?_
        obtain ⟨q11, eq11, hq⟩ := bd hq
        obtain ⟨h10, eh10, hq⟩ := bd hq
        refine E_cV1V d_Mo_goesBy_31 ck_Mo_394 rfl rfl eq11 (Nat.le_of_ble_eq_true rfl) (Nat.le_of_ble_eq_true rfl) (t_Mo_does (by omega) eh10) ?_
        refine E_inc (v := 1) (ls' := [(1, .int (x1 + 1)), (0, .ref a0)]) 1 d_Mo_goesBy_34 rfl (Nat.le_of_ble_eq_true rfl) (by decide) rfl ?_
        refine E_goto (tgt := 2) d_Mo_goesBy_37 (by decide) ?_
        exact E_sub (ks := [1, 0]) rfl <| ih _ _ _ _ hq
def f_Mo_goesBy (a0 : Nat) (h : PH) : Option (Int32 × PH) :=
  f_Mo_goesBy_2 FU a0 0 h
theorem t_Mo_goesBy {d : Nat} (hd : 6 ≤ d) {a0 : Nat} {h : PH} {r : Int32 × PH} (hq : f_Mo_goesBy a0 h = some r) : E d 0 0 m_Mo_goesBy 0 [(0, .ref a0)] [] h (PI r) := by
  unfold f_Mo_goesBy at hq
  obtain ⟨d, rfl⟩ : ∃ e, d = e + 1 := ⟨d - 1, by omega⟩
  refine E_ic (v := 0) d_Mo_goesBy_0 (by decide) ?_
  refine E_isn (ls' := [(1, .int 0), (0, .ref a0)]) d_Mo_goesBy_1 (Nat.le_of_ble_eq_true rfl) rfl ?_
  exact E_sub (ks := [1, 0]) rfl <| t_Mo_goesBy_2 (by omega) _ _ _ _ _ hq
def f_Mo_hours_36 : Nat → Nat → Int32 → Int32 → Int32 → PH → Option (Int32 × PH)
  | 0, _, _, _, _, _ => none
  | n + 1, a0, x1, x2, x3, h =>
    if x1 ≤ x3 then
      some (x2, h)
    else
      (isO h 9 a0).bind fun _ =>
      (f_Mo_keepsAhead a0  h).bind fun h1 =>
      (isO h1 9 a0).bind fun _ =>
      (f_Mo_goesBy a0  h1).bind fun p3 =>
      f_Mo_hours_36 n a0 x1 (x2 + p3.1) (x3 + 1) p3.2
theorem t_Mo_hours_36 {d : Nat} (hd : 7 ≤ d) : ∀ (n : Nat) (a0 : Nat) (x1 : Int32) (x2 : Int32) (x3 : Int32) (h : PH) (r : Int32 × PH), f_Mo_hours_36 n a0 x1 x2 x3 h = some r → E d 0 0 m_Mo_hours 36 [(0, .ref a0), (1, .int x1), (2, .int x2), (3, .int x3)] [] h (PI r) := by
  intro n
  induction n with
  | zero => intro a0 x1 x2 x3 h r hq; rw [f_Mo_hours_36] at hq; cases hq
  | succ n ih =>
    intro a0 x1 x2 x3 h r hq
    rw [f_Mo_hours_36] at hq
    obtain ⟨d, rfl⟩ : ∃ e, d = e + 1 := ⟨d - 1, by omega⟩
    refine E_iln 3 d_Mo_hours_36 rfl rfl ?_
    refine E_iln 1 d_Mo_hours_37 rfl rfl ?_
    refine E_jge (tgt := 58) d_Mo_hours_38 (by decide) (fun c => ?_) (fun c => ?_)
    · rw [if_pos c] at hq
      refine E_iln 2 d_Mo_hours_58 rfl rfl ?_
      exact E_rI d_Mo_hours_59 rfl hq
    · rw [if_neg c] at hq
      refine E_aln 0 d_Mo_hours_41 rfl rfl ?_
      obtain ⟨q2, eq2, hq⟩ := bd hq
      obtain ⟨h1, eh1, hq⟩ := bd hq
      refine E_cV0V d_Mo_hours_42 ck_Mo_376 rfl rfl eq2 (Nat.le_of_ble_eq_true rfl) (Nat.le_of_ble_eq_true rfl) (t_Mo_keepsAhead (by omega) eh1) ?_
      refine E_iln 2 d_Mo_hours_45 rfl rfl ?_
      refine E_aln 0 d_Mo_hours_46 rfl rfl ?_
      obtain ⟨q4, eq4, hq⟩ := bd hq
      obtain ⟨p3, ep3, hq⟩ := bd hq
      refine E_cV0I d_Mo_hours_47 ck_Mo_403 rfl rfl eq4 (Nat.le_of_ble_eq_true rfl) (Nat.le_of_ble_eq_true rfl) (t_Mo_goesBy (by omega) ep3) ?_
      refine E_iadd d_Mo_hours_50 ?_
      refine E_isn (ls' := [(2, .int (x2 + p3.1)), (0, .ref a0), (1, .int x1), (3, .int x3)]) d_Mo_hours_51 (Nat.le_of_ble_eq_true rfl) rfl ?_
      refine E_inc (v := 1) (ls' := [(3, .int (x3 + 1)), (2, .int (x2 + p3.1)), (0, .ref a0), (1, .int x1)]) 3 d_Mo_hours_52 rfl (Nat.le_of_ble_eq_true rfl) (by decide) rfl ?_
      refine E_goto (tgt := 36) d_Mo_hours_55 (by decide) ?_
      exact E_sub (ks := [2, 3, 1, 0]) rfl <| ih _ _ _ _ _ _ hq
def f_Mo_hours (a0 : Nat) (x1 : Int32) (h : PH) : Option (Int32 × PH) :=
  (stI h 9 a0 0 0).bind fun h1 =>
  (isO h1 9 a0).bind fun _ =>
  (f_Mo_isIn a0 x1 1 60 h1).bind fun p2 =>
  if p2.1 = 0 then
    some ((-1), p2.2)
  else
    (ldR p2.2 9 a0 1).bind fun v4 =>
    (rdA p2.2 v4 0).bind fun v5 =>
    if (v5 + x1) ≤ 9999 then
      f_Mo_hours_36 FU a0 x1 0 0 p2.2
    else
      some ((-1), p2.2)
theorem t_Mo_hours {d : Nat} (hd : 7 ≤ d) {a0 : Nat} {x1 : Int32} {h : PH} {r : Int32 × PH} (hq : f_Mo_hours a0 x1 h = some r) : E d 0 0 m_Mo_hours 0 [(0, .ref a0), (1, .int x1)] [] h (PI r) := by
  unfold f_Mo_hours at hq
  obtain ⟨d, rfl⟩ : ∃ e, d = e + 1 := ⟨d - 1, by omega⟩
  refine E_aln 0 d_Mo_hours_0 rfl rfl ?_
  refine E_ic (v := 0) d_Mo_hours_1 (by decide) ?_
  obtain ⟨h1, eh1, hq⟩ := bd hq
  refine E_pI d_Mo_hours_2 lp_Mo_m_140 rfl eh1 ?_
  refine E_aln 0 d_Mo_hours_5 rfl rfl ?_
  refine E_iln 1 d_Mo_hours_6 rfl rfl ?_
  refine E_ic (v := 1) d_Mo_hours_7 (by decide) ?_
  refine E_bi (v := 60) d_Mo_hours_8 (by decide) ?_
  obtain ⟨q3, eq3, hq⟩ := bd hq
  obtain ⟨p2, ep2, hq⟩ := bd hq
  refine E_cV3I d_Mo_hours_10 ck_Mo_162 rfl rfl eq3 (Nat.le_of_ble_eq_true rfl) (Nat.le_of_ble_eq_true rfl) (t_Mo_isIn (by omega) ep2) ?_
  refine E_zeq (tgt := 30) d_Mo_hours_13 (by decide) (fun c => ?_) (fun c => ?_)
  · rw [if_pos c] at hq
    refine E_ic (v := (-1)) d_Mo_hours_30 (by decide) ?_
    exact E_rI d_Mo_hours_31 rfl hq
  · rw [if_neg c] at hq
    refine E_aln 0 d_Mo_hours_16 rfl rfl ?_
    obtain ⟨v4, ev4, hq⟩ := bd hq
    refine E_gR d_Mo_hours_17 lk_Mo_7 rfl ev4 ?_
    refine E_ic (v := 0) d_Mo_hours_20 (by decide) ?_
    obtain ⟨v5, ev5, hq⟩ := bd hq
    refine E_ra d_Mo_hours_21 ev5 ?_
    refine E_iln 1 d_Mo_hours_22 rfl rfl ?_
    refine E_iadd d_Mo_hours_23 ?_
    refine E_si (v := 9999) d_Mo_hours_24 (by decide) ?_
    refine E_jle (tgt := 32) d_Mo_hours_27 (by decide) (fun c => ?_) (fun c => ?_)
    · rw [if_pos c] at hq
      refine E_ic (v := 0) d_Mo_hours_32 (by decide) ?_
      refine E_isn (ls' := [(2, .int 0), (0, .ref a0), (1, .int x1)]) d_Mo_hours_33 (Nat.le_of_ble_eq_true rfl) rfl ?_
      refine E_ic (v := 0) d_Mo_hours_34 (by decide) ?_
      refine E_isn (ls' := [(3, .int 0), (2, .int 0), (0, .ref a0), (1, .int x1)]) d_Mo_hours_35 (Nat.le_of_ble_eq_true rfl) rfl ?_
      exact E_sub (ks := [2, 3, 1, 0]) rfl <| t_Mo_hours_36 (by omega) _ _ _ _ _ _ _ hq
    · rw [if_neg c] at hq
      refine E_ic (v := (-1)) d_Mo_hours_30 (by decide) ?_
      exact E_rI d_Mo_hours_31 rfl hq
def f_Mo_of (a0 : Nat) (x1 : Int32) (x2 : Int32) (h : PH) : Option (Int32 × PH) :=
  (stI h 9 a0 0 0).bind fun h1 =>
  (isO h1 9 a0).bind fun _ =>
  (f_Mo_isTraveller a0 x1 h1).bind fun p2 =>
  if p2.1 = 0 then
    some ((-2), p2.2)
  else
    (ldI p2.2 9 a0 7).bind fun v4 =>
    (isO p2.2 9 a0).bind fun _ =>
    (f_Mo_isIn a0 x2 10 (9 + v4) p2.2).bind fun p5 =>
    if p5.1 = 0 then
      (ldI p5.2 9 a0 7).bind fun v7 =>
      (isO p5.2 9 a0).bind fun _ =>
      (f_Mo_isIn a0 x2 20 (19 + v7) p5.2).bind fun p8 =>
      if p8.1 = 0 then
        if x2 = 0 then
          (ldR p8.2 9 a0 8).bind fun v26 =>
          (rdA p8.2 v26 x1).bind fun v27 =>
          some (v27, p8.2)
        else
          if x2 = 1 then
            (ldR p8.2 9 a0 9).bind fun v24 =>
            (rdA p8.2 v24 x1).bind fun v25 =>
            some (v25, p8.2)
          else
            if x2 = 2 then
              (ldR p8.2 9 a0 1).bind fun v22 =>
              (rdA p8.2 v22 (7 + x1)).bind fun v23 =>
              some (v23, p8.2)
            else
              if x2 = 3 then
                (ldR p8.2 9 a0 1).bind fun v20 =>
                (rdA p8.2 v20 (19 + x1)).bind fun v21 =>
                some (v21, p8.2)
              else
                if x2 = 4 then
                  (ldR p8.2 9 a0 1).bind fun v18 =>
                  (rdA p8.2 v18 (31 + x1)).bind fun v19 =>
                  some ((v19 - 1), p8.2)
                else
                  if x2 = 5 then
                    (ldR p8.2 9 a0 1).bind fun v16 =>
                    (rdA p8.2 v16 (43 + x1)).bind fun v17 =>
                    some (v17, p8.2)
                  else
                    if x2 = 6 then
                      (ldR p8.2 9 a0 1).bind fun v14 =>
                      (rdA p8.2 v14 (55 + x1)).bind fun v15 =>
                      some (v15, p8.2)
                    else
                      if x2 = 7 then
                        (ldR p8.2 9 a0 37).bind fun v12 =>
                        (rdA p8.2 v12 x1).bind fun v13 =>
                        some (v13, p8.2)
                      else
                        if x2 = 8 then
                          (isO p8.2 9 a0).bind fun _ =>
                          (f_Mo_weepOf a0 x1 p8.2).bind fun p10 =>
                          some (p10.1, p10.2)
                        else
                          some ((-2), p8.2)
      else
        (isO p8.2 9 a0).bind fun _ =>
        (f_Mo_findOf a0 x1 (x2 - 20) p8.2).bind fun p28 =>
        some (p28.1, p28.2)
    else
      (isO p5.2 9 a0).bind fun _ =>
      (f_Mo_rateOf a0 x1 (x2 - 10) p5.2).bind fun p30 =>
      some (p30.1, p30.2)
theorem t_Mo_of {d : Nat} (hd : 5 ≤ d) {a0 : Nat} {x1 : Int32} {x2 : Int32} {h : PH} {r : Int32 × PH} (hq : f_Mo_of a0 x1 x2 h = some r) : E d 0 0 m_Mo_of 0 [(0, .ref a0), (1, .int x1), (2, .int x2)] [] h (PI r) := by
  unfold f_Mo_of at hq
  obtain ⟨d, rfl⟩ : ∃ e, d = e + 1 := ⟨d - 1, by omega⟩
  refine E_aln 0 d_Mo_of_0 rfl rfl ?_
  refine E_ic (v := 0) d_Mo_of_1 (by decide) ?_
  obtain ⟨h1, eh1, hq⟩ := bd hq
  refine E_pI d_Mo_of_2 lp_Mo_m_140 rfl eh1 ?_
  refine E_aln 0 d_Mo_of_5 rfl rfl ?_
  refine E_iln 1 d_Mo_of_6 rfl rfl ?_
  obtain ⟨q3, eq3, hq⟩ := bd hq
  obtain ⟨p2, ep2, hq⟩ := bd hq
  refine E_cV1I d_Mo_of_7 ck_Mo_170 rfl rfl eq3 (Nat.le_of_ble_eq_true rfl) (Nat.le_of_ble_eq_true rfl) (t_Mo_isTraveller (by omega) ep2) ?_
  refine E_zne (tgt := 16) d_Mo_of_10 (by decide) (fun c => ?_) (fun c => ?_)
  · rw [if_neg c] at hq
    refine E_aln 0 d_Mo_of_16 rfl rfl ?_
    refine E_iln 2 d_Mo_of_17 rfl rfl ?_
    refine E_bi (v := 10) d_Mo_of_18 (by decide) ?_
    refine E_bi (v := 9) d_Mo_of_20 (by decide) ?_
    refine E_aln 0 d_Mo_of_22 rfl rfl ?_
    obtain ⟨v4, ev4, hq⟩ := bd hq
    refine E_gI d_Mo_of_23 lk_Mo_155 rfl ev4 ?_
    refine E_iadd d_Mo_of_26 ?_
    obtain ⟨q6, eq6, hq⟩ := bd hq
    obtain ⟨p5, ep5, hq⟩ := bd hq
    refine E_cV3I d_Mo_of_27 ck_Mo_162 rfl rfl eq6 (Nat.le_of_ble_eq_true rfl) (Nat.le_of_ble_eq_true rfl) (t_Mo_isIn (by omega) ep5) ?_
    refine E_zeq (tgt := 43) d_Mo_of_30 (by decide) (fun c => ?_) (fun c => ?_)
    · rw [if_pos c] at hq
      refine E_aln 0 d_Mo_of_43 rfl rfl ?_
      refine E_iln 2 d_Mo_of_44 rfl rfl ?_
      refine E_bi (v := 20) d_Mo_of_45 (by decide) ?_
      refine E_bi (v := 19) d_Mo_of_47 (by decide) ?_
      refine E_aln 0 d_Mo_of_49 rfl rfl ?_
      obtain ⟨v7, ev7, hq⟩ := bd hq
      refine E_gI d_Mo_of_50 lk_Mo_155 rfl ev7 ?_
      refine E_iadd d_Mo_of_53 ?_
      obtain ⟨q9, eq9, hq⟩ := bd hq
      obtain ⟨p8, ep8, hq⟩ := bd hq
      refine E_cV3I d_Mo_of_54 ck_Mo_162 rfl rfl eq9 (Nat.le_of_ble_eq_true rfl) (Nat.le_of_ble_eq_true rfl) (t_Mo_isIn (by omega) ep8) ?_
      refine E_zeq (tgt := 70) d_Mo_of_57 (by decide) (fun c => ?_) (fun c => ?_)
      · rw [if_pos c] at hq
        refine E_iln 2 d_Mo_of_70 rfl rfl ?_
        refine E_zne (tgt := 81) d_Mo_of_71 (by decide) (fun c => ?_) (fun c => ?_)
        · rw [if_neg c] at hq
          refine E_iln 2 d_Mo_of_81 rfl rfl ?_
          refine E_ic (v := 1) d_Mo_of_82 (by decide) ?_
          refine E_jne (tgt := 93) d_Mo_of_83 (by decide) (fun c => ?_) (fun c => ?_)
          · rw [if_neg c] at hq
            refine E_iln 2 d_Mo_of_93 rfl rfl ?_
            refine E_ic (v := 2) d_Mo_of_94 (by decide) ?_
            refine E_jne (tgt := 108) d_Mo_of_95 (by decide) (fun c => ?_) (fun c => ?_)
            · rw [if_neg c] at hq
              refine E_iln 2 d_Mo_of_108 rfl rfl ?_
              refine E_ic (v := 3) d_Mo_of_109 (by decide) ?_
              refine E_jne (tgt := 123) d_Mo_of_110 (by decide) (fun c => ?_) (fun c => ?_)
              · rw [if_neg c] at hq
                refine E_iln 2 d_Mo_of_123 rfl rfl ?_
                refine E_ic (v := 4) d_Mo_of_124 (by decide) ?_
                refine E_jne (tgt := 140) d_Mo_of_125 (by decide) (fun c => ?_) (fun c => ?_)
                · rw [if_neg c] at hq
                  refine E_iln 2 d_Mo_of_140 rfl rfl ?_
                  refine E_ic (v := 5) d_Mo_of_141 (by decide) ?_
                  refine E_jne (tgt := 155) d_Mo_of_142 (by decide) (fun c => ?_) (fun c => ?_)
                  · rw [if_neg c] at hq
                    refine E_iln 2 d_Mo_of_155 rfl rfl ?_
                    refine E_bi (v := 6) d_Mo_of_156 (by decide) ?_
                    refine E_jne (tgt := 171) d_Mo_of_158 (by decide) (fun c => ?_) (fun c => ?_)
                    · rw [if_neg c] at hq
                      refine E_iln 2 d_Mo_of_171 rfl rfl ?_
                      refine E_bi (v := 7) d_Mo_of_172 (by decide) ?_
                      refine E_jne (tgt := 186) d_Mo_of_174 (by decide) (fun c => ?_) (fun c => ?_)
                      · rw [if_neg c] at hq
                        refine E_iln 2 d_Mo_of_186 rfl rfl ?_
                        refine E_bi (v := 8) d_Mo_of_187 (by decide) ?_
                        refine E_jne (tgt := 200) d_Mo_of_189 (by decide) (fun c => ?_) (fun c => ?_)
                        · rw [if_neg c] at hq
                          refine E_bi (v := (-2)) d_Mo_of_200 (by decide) ?_
                          exact E_rI d_Mo_of_202 rfl hq
                        · rw [if_pos c] at hq
                          refine E_aln 0 d_Mo_of_192 rfl rfl ?_
                          refine E_iln 1 d_Mo_of_193 rfl rfl ?_
                          obtain ⟨q11, eq11, hq⟩ := bd hq
                          obtain ⟨p10, ep10, hq⟩ := bd hq
                          refine E_cV1I d_Mo_of_194 ck_Mo_400 rfl rfl eq11 (Nat.le_of_ble_eq_true rfl) (Nat.le_of_ble_eq_true rfl) (t_Mo_weepOf (by omega) ep10) ?_
                          refine E_goto (tgt := 202) d_Mo_of_197 (by decide) ?_
                          exact E_rI d_Mo_of_202 rfl hq
                      · rw [if_pos c] at hq
                        refine E_aln 0 d_Mo_of_177 rfl rfl ?_
                        obtain ⟨v12, ev12, hq⟩ := bd hq
                        refine E_gR d_Mo_of_178 lk_Mo_68 rfl ev12 ?_
                        refine E_iln 1 d_Mo_of_181 rfl rfl ?_
                        obtain ⟨v13, ev13, hq⟩ := bd hq
                        refine E_ra d_Mo_of_182 ev13 ?_
                        refine E_goto (tgt := 202) d_Mo_of_183 (by decide) ?_
                        exact E_rI d_Mo_of_202 rfl hq
                    · rw [if_pos c] at hq
                      refine E_aln 0 d_Mo_of_161 rfl rfl ?_
                      obtain ⟨v14, ev14, hq⟩ := bd hq
                      refine E_gR d_Mo_of_162 lk_Mo_7 rfl ev14 ?_
                      refine E_bi (v := 55) d_Mo_of_165 (by decide) ?_
                      refine E_iln 1 d_Mo_of_167 rfl rfl ?_
                      refine E_iadd d_Mo_of_168 ?_
                      obtain ⟨v15, ev15, hq⟩ := bd hq
                      refine E_ra d_Mo_of_169 ev15 ?_
                      exact E_rI d_Mo_of_170 rfl hq
                  · rw [if_pos c] at hq
                    refine E_aln 0 d_Mo_of_145 rfl rfl ?_
                    obtain ⟨v16, ev16, hq⟩ := bd hq
                    refine E_gR d_Mo_of_146 lk_Mo_7 rfl ev16 ?_
                    refine E_bi (v := 43) d_Mo_of_149 (by decide) ?_
                    refine E_iln 1 d_Mo_of_151 rfl rfl ?_
                    refine E_iadd d_Mo_of_152 ?_
                    obtain ⟨v17, ev17, hq⟩ := bd hq
                    refine E_ra d_Mo_of_153 ev17 ?_
                    exact E_rI d_Mo_of_154 rfl hq
                · rw [if_pos c] at hq
                  refine E_aln 0 d_Mo_of_128 rfl rfl ?_
                  obtain ⟨v18, ev18, hq⟩ := bd hq
                  refine E_gR d_Mo_of_129 lk_Mo_7 rfl ev18 ?_
                  refine E_bi (v := 31) d_Mo_of_132 (by decide) ?_
                  refine E_iln 1 d_Mo_of_134 rfl rfl ?_
                  refine E_iadd d_Mo_of_135 ?_
                  obtain ⟨v19, ev19, hq⟩ := bd hq
                  refine E_ra d_Mo_of_136 ev19 ?_
                  refine E_ic (v := 1) d_Mo_of_137 (by decide) ?_
                  refine E_isub d_Mo_of_138 ?_
                  exact E_rI d_Mo_of_139 rfl hq
              · rw [if_pos c] at hq
                refine E_aln 0 d_Mo_of_113 rfl rfl ?_
                obtain ⟨v20, ev20, hq⟩ := bd hq
                refine E_gR d_Mo_of_114 lk_Mo_7 rfl ev20 ?_
                refine E_bi (v := 19) d_Mo_of_117 (by decide) ?_
                refine E_iln 1 d_Mo_of_119 rfl rfl ?_
                refine E_iadd d_Mo_of_120 ?_
                obtain ⟨v21, ev21, hq⟩ := bd hq
                refine E_ra d_Mo_of_121 ev21 ?_
                exact E_rI d_Mo_of_122 rfl hq
            · rw [if_pos c] at hq
              refine E_aln 0 d_Mo_of_98 rfl rfl ?_
              obtain ⟨v22, ev22, hq⟩ := bd hq
              refine E_gR d_Mo_of_99 lk_Mo_7 rfl ev22 ?_
              refine E_bi (v := 7) d_Mo_of_102 (by decide) ?_
              refine E_iln 1 d_Mo_of_104 rfl rfl ?_
              refine E_iadd d_Mo_of_105 ?_
              obtain ⟨v23, ev23, hq⟩ := bd hq
              refine E_ra d_Mo_of_106 ev23 ?_
              exact E_rI d_Mo_of_107 rfl hq
          · rw [if_pos c] at hq
            refine E_aln 0 d_Mo_of_86 rfl rfl ?_
            obtain ⟨v24, ev24, hq⟩ := bd hq
            refine E_gR d_Mo_of_87 lk_Mo_22 rfl ev24 ?_
            refine E_iln 1 d_Mo_of_90 rfl rfl ?_
            obtain ⟨v25, ev25, hq⟩ := bd hq
            refine E_ra d_Mo_of_91 ev25 ?_
            exact E_rI d_Mo_of_92 rfl hq
        · rw [if_pos c] at hq
          refine E_aln 0 d_Mo_of_74 rfl rfl ?_
          obtain ⟨v26, ev26, hq⟩ := bd hq
          refine E_gR d_Mo_of_75 lk_Mo_19 rfl ev26 ?_
          refine E_iln 1 d_Mo_of_78 rfl rfl ?_
          obtain ⟨v27, ev27, hq⟩ := bd hq
          refine E_ra d_Mo_of_79 ev27 ?_
          exact E_rI d_Mo_of_80 rfl hq
      · rw [if_neg c] at hq
        refine E_aln 0 d_Mo_of_60 rfl rfl ?_
        refine E_iln 1 d_Mo_of_61 rfl rfl ?_
        refine E_iln 2 d_Mo_of_62 rfl rfl ?_
        refine E_bi (v := 20) d_Mo_of_63 (by decide) ?_
        refine E_isub d_Mo_of_65 ?_
        obtain ⟨q29, eq29, hq⟩ := bd hq
        obtain ⟨p28, ep28, hq⟩ := bd hq
        refine E_cV2I d_Mo_of_66 ck_Mo_363 rfl rfl eq29 (Nat.le_of_ble_eq_true rfl) (Nat.le_of_ble_eq_true rfl) (t_Mo_findOf (by omega) ep28) ?_
        exact E_rI d_Mo_of_69 rfl hq
    · rw [if_neg c] at hq
      refine E_aln 0 d_Mo_of_33 rfl rfl ?_
      refine E_iln 1 d_Mo_of_34 rfl rfl ?_
      refine E_iln 2 d_Mo_of_35 rfl rfl ?_
      refine E_bi (v := 10) d_Mo_of_36 (by decide) ?_
      refine E_isub d_Mo_of_38 ?_
      obtain ⟨q31, eq31, hq⟩ := bd hq
      obtain ⟨p30, ep30, hq⟩ := bd hq
      refine E_cV2I d_Mo_of_39 ck_Mo_360 rfl rfl eq31 (Nat.le_of_ble_eq_true rfl) (Nat.le_of_ble_eq_true rfl) (t_Mo_rateOf (by omega) ep30) ?_
      exact E_rI d_Mo_of_42 rfl hq
  · rw [if_pos c] at hq
    refine E_bi (v := (-2)) d_Mo_of_13 (by decide) ?_
    exact E_rI d_Mo_of_15 rfl hq
def f_Mo_who (a0 : Nat) (x1 : Int32) (x2 : Int32) (h : PH) : Option (Int32 × PH) :=
  (stI h 9 a0 0 0).bind fun h1 =>
  (isO h1 9 a0).bind fun _ =>
  (f_Mo_isOfficer a0 x1 h1).bind fun p2 =>
  if p2.1 = 0 then
    some ((-1), p2.2)
  else
    if x2 = 0 then
      (ldR p2.2 9 a0 1).bind fun v10 =>
      (rdA p2.2 v10 (67 + x1)).bind fun v11 =>
      some (v11, p2.2)
    else
      if x2 = 1 then
        (ldR p2.2 9 a0 10).bind fun v8 =>
        (rdA p2.2 v8 x1).bind fun v9 =>
        some (v9, p2.2)
      else
        if x2 = 2 then
          (ldR p2.2 9 a0 11).bind fun v6 =>
          (rdA p2.2 v6 x1).bind fun v7 =>
          some (v7, p2.2)
        else
          if x2 = 3 then
            (ldR p2.2 9 a0 1).bind fun v4 =>
            (rdA p2.2 v4 (73 + x1)).bind fun v5 =>
            some (v5, p2.2)
          else
            some ((-1), p2.2)
theorem t_Mo_who {d : Nat} (hd : 1 ≤ d) {a0 : Nat} {x1 : Int32} {x2 : Int32} {h : PH} {r : Int32 × PH} (hq : f_Mo_who a0 x1 x2 h = some r) : E d 0 0 m_Mo_who 0 [(0, .ref a0), (1, .int x1), (2, .int x2)] [] h (PI r) := by
  unfold f_Mo_who at hq
  obtain ⟨d, rfl⟩ : ∃ e, d = e + 1 := ⟨d - 1, by omega⟩
  refine E_aln 0 d_Mo_who_0 rfl rfl ?_
  refine E_ic (v := 0) d_Mo_who_1 (by decide) ?_
  obtain ⟨h1, eh1, hq⟩ := bd hq
  refine E_pI d_Mo_who_2 lp_Mo_m_140 rfl eh1 ?_
  refine E_aln 0 d_Mo_who_5 rfl rfl ?_
  refine E_iln 1 d_Mo_who_6 rfl rfl ?_
  obtain ⟨q3, eq3, hq⟩ := bd hq
  obtain ⟨p2, ep2, hq⟩ := bd hq
  refine E_cV1I d_Mo_who_7 ck_Mo_173 rfl rfl eq3 (Nat.le_of_ble_eq_true rfl) (Nat.le_of_ble_eq_true rfl) (t_Mo_isOfficer (by omega) ep2) ?_
  refine E_zne (tgt := 15) d_Mo_who_10 (by decide) (fun c => ?_) (fun c => ?_)
  · rw [if_neg c] at hq
    refine E_iln 2 d_Mo_who_15 rfl rfl ?_
    refine E_zne (tgt := 31) d_Mo_who_16 (by decide) (fun c => ?_) (fun c => ?_)
    · rw [if_neg c] at hq
      refine E_iln 2 d_Mo_who_31 rfl rfl ?_
      refine E_ic (v := 1) d_Mo_who_32 (by decide) ?_
      refine E_jne (tgt := 45) d_Mo_who_33 (by decide) (fun c => ?_) (fun c => ?_)
      · rw [if_neg c] at hq
        refine E_iln 2 d_Mo_who_45 rfl rfl ?_
        refine E_ic (v := 2) d_Mo_who_46 (by decide) ?_
        refine E_jne (tgt := 59) d_Mo_who_47 (by decide) (fun c => ?_) (fun c => ?_)
        · rw [if_neg c] at hq
          refine E_iln 2 d_Mo_who_59 rfl rfl ?_
          refine E_ic (v := 3) d_Mo_who_60 (by decide) ?_
          refine E_jne (tgt := 76) d_Mo_who_61 (by decide) (fun c => ?_) (fun c => ?_)
          · rw [if_neg c] at hq
            refine E_ic (v := (-1)) d_Mo_who_76 (by decide) ?_
            exact E_rI d_Mo_who_77 rfl hq
          · rw [if_pos c] at hq
            refine E_aln 0 d_Mo_who_64 rfl rfl ?_
            obtain ⟨v4, ev4, hq⟩ := bd hq
            refine E_gR d_Mo_who_65 lk_Mo_7 rfl ev4 ?_
            refine E_bi (v := 73) d_Mo_who_68 (by decide) ?_
            refine E_iln 1 d_Mo_who_70 rfl rfl ?_
            refine E_iadd d_Mo_who_71 ?_
            obtain ⟨v5, ev5, hq⟩ := bd hq
            refine E_ra d_Mo_who_72 ev5 ?_
            refine E_goto (tgt := 77) d_Mo_who_73 (by decide) ?_
            exact E_rI d_Mo_who_77 rfl hq
        · rw [if_pos c] at hq
          refine E_aln 0 d_Mo_who_50 rfl rfl ?_
          obtain ⟨v6, ev6, hq⟩ := bd hq
          refine E_gR d_Mo_who_51 lk_Mo_28 rfl ev6 ?_
          refine E_iln 1 d_Mo_who_54 rfl rfl ?_
          obtain ⟨v7, ev7, hq⟩ := bd hq
          refine E_ra d_Mo_who_55 ev7 ?_
          refine E_goto (tgt := 77) d_Mo_who_56 (by decide) ?_
          exact E_rI d_Mo_who_77 rfl hq
      · rw [if_pos c] at hq
        refine E_aln 0 d_Mo_who_36 rfl rfl ?_
        obtain ⟨v8, ev8, hq⟩ := bd hq
        refine E_gR d_Mo_who_37 lk_Mo_25 rfl ev8 ?_
        refine E_iln 1 d_Mo_who_40 rfl rfl ?_
        obtain ⟨v9, ev9, hq⟩ := bd hq
        refine E_ra d_Mo_who_41 ev9 ?_
        refine E_goto (tgt := 77) d_Mo_who_42 (by decide) ?_
        exact E_rI d_Mo_who_77 rfl hq
    · rw [if_pos c] at hq
      refine E_aln 0 d_Mo_who_19 rfl rfl ?_
      obtain ⟨v10, ev10, hq⟩ := bd hq
      refine E_gR d_Mo_who_20 lk_Mo_7 rfl ev10 ?_
      refine E_bi (v := 67) d_Mo_who_23 (by decide) ?_
      refine E_iln 1 d_Mo_who_25 rfl rfl ?_
      refine E_iadd d_Mo_who_26 ?_
      obtain ⟨v11, ev11, hq⟩ := bd hq
      refine E_ra d_Mo_who_27 ev11 ?_
      refine E_goto (tgt := 77) d_Mo_who_28 (by decide) ?_
      exact E_rI d_Mo_who_77 rfl hq
  · rw [if_pos c] at hq
    refine E_ic (v := (-1)) d_Mo_who_13 (by decide) ?_
    exact E_rI d_Mo_who_14 rfl hq
def f_Mo_book (a0 : Nat) (x1 : Int32) (x2 : Int32) (h : PH) : Option (Int32 × PH) :=
  (stI h 9 a0 0 0).bind fun h1 =>
  (ldR h1 9 a0 1).bind fun v2 =>
  (rdA h1 v2 2).bind fun v3 =>
  (isO h1 9 a0).bind fun _ =>
  (f_Mo_isIn a0 x1 0 (v3 - 1) h1).bind fun p4 =>
  if p4.1 = 0 then
    some ((-1), p4.2)
  else
    (isO p4.2 9 a0).bind fun _ =>
    (f_Mo_isIn a0 x2 0 3 p4.2).bind fun p6 =>
    if p6.1 = 0 then
      some ((-1), p6.2)
    else
      (ldR p6.2 9 a0 12).bind fun v8 =>
      (rdA p6.2 v8 ((4 * x1) + x2)).bind fun v9 =>
      some (v9, p6.2)
theorem t_Mo_book {d : Nat} (hd : 1 ≤ d) {a0 : Nat} {x1 : Int32} {x2 : Int32} {h : PH} {r : Int32 × PH} (hq : f_Mo_book a0 x1 x2 h = some r) : E d 0 0 m_Mo_book 0 [(0, .ref a0), (1, .int x1), (2, .int x2)] [] h (PI r) := by
  unfold f_Mo_book at hq
  obtain ⟨d, rfl⟩ : ∃ e, d = e + 1 := ⟨d - 1, by omega⟩
  refine E_aln 0 d_Mo_book_0 rfl rfl ?_
  refine E_ic (v := 0) d_Mo_book_1 (by decide) ?_
  obtain ⟨h1, eh1, hq⟩ := bd hq
  refine E_pI d_Mo_book_2 lp_Mo_m_140 rfl eh1 ?_
  refine E_aln 0 d_Mo_book_5 rfl rfl ?_
  refine E_iln 1 d_Mo_book_6 rfl rfl ?_
  refine E_ic (v := 0) d_Mo_book_7 (by decide) ?_
  refine E_aln 0 d_Mo_book_8 rfl rfl ?_
  obtain ⟨v2, ev2, hq⟩ := bd hq
  refine E_gR d_Mo_book_9 lk_Mo_7 rfl ev2 ?_
  refine E_ic (v := 2) d_Mo_book_12 (by decide) ?_
  obtain ⟨v3, ev3, hq⟩ := bd hq
  refine E_ra d_Mo_book_13 ev3 ?_
  refine E_ic (v := 1) d_Mo_book_14 (by decide) ?_
  refine E_isub d_Mo_book_15 ?_
  obtain ⟨q5, eq5, hq⟩ := bd hq
  obtain ⟨p4, ep4, hq⟩ := bd hq
  refine E_cV3I d_Mo_book_16 ck_Mo_162 rfl rfl eq5 (Nat.le_of_ble_eq_true rfl) (Nat.le_of_ble_eq_true rfl) (t_Mo_isIn (by omega) ep4) ?_
  refine E_zeq (tgt := 45) d_Mo_book_19 (by decide) (fun c => ?_) (fun c => ?_)
  · rw [if_pos c] at hq
    refine E_ic (v := (-1)) d_Mo_book_45 (by decide) ?_
    exact E_rI d_Mo_book_46 rfl hq
  · rw [if_neg c] at hq
    refine E_aln 0 d_Mo_book_22 rfl rfl ?_
    refine E_iln 2 d_Mo_book_23 rfl rfl ?_
    refine E_ic (v := 0) d_Mo_book_24 (by decide) ?_
    refine E_ic (v := 3) d_Mo_book_25 (by decide) ?_
    obtain ⟨q7, eq7, hq⟩ := bd hq
    obtain ⟨p6, ep6, hq⟩ := bd hq
    refine E_cV3I d_Mo_book_26 ck_Mo_162 rfl rfl eq7 (Nat.le_of_ble_eq_true rfl) (Nat.le_of_ble_eq_true rfl) (t_Mo_isIn (by omega) ep6) ?_
    refine E_zeq (tgt := 45) d_Mo_book_29 (by decide) (fun c => ?_) (fun c => ?_)
    · rw [if_pos c] at hq
      refine E_ic (v := (-1)) d_Mo_book_45 (by decide) ?_
      exact E_rI d_Mo_book_46 rfl hq
    · rw [if_neg c] at hq
      refine E_aln 0 d_Mo_book_32 rfl rfl ?_
      obtain ⟨v8, ev8, hq⟩ := bd hq
      refine E_gR d_Mo_book_33 lk_Mo_31 rfl ev8 ?_
      refine E_ic (v := 4) d_Mo_book_36 (by decide) ?_
      refine E_iln 1 d_Mo_book_37 rfl rfl ?_
      refine E_imul d_Mo_book_38 ?_
      refine E_iln 2 d_Mo_book_39 rfl rfl ?_
      refine E_iadd d_Mo_book_40 ?_
      obtain ⟨v9, ev9, hq⟩ := bd hq
      refine E_ra d_Mo_book_41 ev9 ?_
      refine E_goto (tgt := 46) d_Mo_book_42 (by decide) ?_
      exact E_rI d_Mo_book_46 rfl hq
def f_Mo_thinks_2 : Nat → Nat → Int32 → PH → Option (PH)
  | 0, _, _, _ => none
  | n + 1, a0, x1, h =>
    if 79 ≤ x1 then
      (stZ h 9 a0 5 1).bind fun h1 =>
      some h1
    else
      (ldR h 9 a0 4).bind fun v2 =>
      (ldR h 9 a0 1).bind fun v3 =>
      (rdA h v3 x1).bind fun v4 =>
      (wrA h v2 x1 v4).bind fun h5 =>
      f_Mo_thinks_2 n a0 (x1 + 1) h5
theorem t_Mo_thinks_2 {d : Nat} (hd : 0 ≤ d) : ∀ (n : Nat) (a0 : Nat) (x1 : Int32) (h : PH) (r : PH), f_Mo_thinks_2 n a0 x1 h = some r → E d 0 0 m_Mo_thinks 2 [(0, .ref a0), (1, .int x1)] [] h (PV r) := by
  intro n
  induction n with
  | zero => intro a0 x1 h r hq; rw [f_Mo_thinks_2] at hq; cases hq
  | succ n ih =>
    intro a0 x1 h r hq
    rw [f_Mo_thinks_2] at hq
    refine E_iln 1 d_Mo_thinks_2 rfl rfl ?_
    refine E_bi (v := 79) d_Mo_thinks_3 (by decide) ?_
    refine E_jge (tgt := 26) d_Mo_thinks_5 (by decide) (fun c => ?_) (fun c => ?_)
    · rw [if_pos c] at hq
      refine E_aln 0 d_Mo_thinks_26 rfl rfl ?_
      refine E_ic (v := 1) d_Mo_thinks_27 (by decide) ?_
      obtain ⟨h1, eh1, hq⟩ := bd hq
      refine E_pZ d_Mo_thinks_28 lp_Mo_m_146 rfl eh1 ?_
      exact E_rV d_Mo_thinks_31 rfl hq
    · rw [if_neg c] at hq
      refine E_aln 0 d_Mo_thinks_8 rfl rfl ?_
      obtain ⟨v2, ev2, hq⟩ := bd hq
      refine E_gR d_Mo_thinks_9 lk_Mo_16 rfl ev2 ?_
      refine E_iln 1 d_Mo_thinks_12 rfl rfl ?_
      refine E_aln 0 d_Mo_thinks_13 rfl rfl ?_
      obtain ⟨v3, ev3, hq⟩ := bd hq
      refine E_gR d_Mo_thinks_14 lk_Mo_7 rfl ev3 ?_
      refine E_iln 1 d_Mo_thinks_17 rfl rfl ?_
      obtain ⟨v4, ev4, hq⟩ := bd hq
      refine E_ra d_Mo_thinks_18 ev4 ?_
      obtain ⟨h5, eh5, hq⟩ := bd hq
      refine E_wa d_Mo_thinks_19 eh5 ?_
      refine E_inc (v := 1) (ls' := [(1, .int (x1 + 1)), (0, .ref a0)]) 1 d_Mo_thinks_20 rfl (Nat.le_of_ble_eq_true rfl) (by decide) rfl ?_
      refine E_goto (tgt := 2) d_Mo_thinks_23 (by decide) ?_
      exact E_sub (ks := [1, 0]) rfl <| ih _ _ _ _ hq
def f_Mo_thinks (a0 : Nat) (h : PH) : Option (PH) :=
  f_Mo_thinks_2 FU a0 0 h
theorem t_Mo_thinks {d : Nat} (hd : 0 ≤ d) {a0 : Nat} {h : PH} {r : PH} (hq : f_Mo_thinks a0 h = some r) : E d 0 0 m_Mo_thinks 0 [(0, .ref a0)] [] h (PV r) := by
  unfold f_Mo_thinks at hq
  refine E_ic (v := 0) d_Mo_thinks_0 (by decide) ?_
  refine E_isn (ls' := [(1, .int 0), (0, .ref a0)]) d_Mo_thinks_1 (Nat.le_of_ble_eq_true rfl) rfl ?_
  exact E_sub (ks := [1, 0]) rfl <| t_Mo_thinks_2 (by omega) _ _ _ _ _ hq
def f_Mo_endsThought_2 : Nat → Nat → Int32 → PH → Option (PH)
  | 0, _, _, _ => none
  | n + 1, a0, x1, h =>
    if 79 ≤ x1 then
      (stZ h 9 a0 5 0).bind fun h1 =>
      some h1
    else
      (ldR h 9 a0 1).bind fun v2 =>
      (ldR h 9 a0 4).bind fun v3 =>
      (rdA h v3 x1).bind fun v4 =>
      (wrA h v2 x1 v4).bind fun h5 =>
      f_Mo_endsThought_2 n a0 (x1 + 1) h5
theorem t_Mo_endsThought_2 {d : Nat} (hd : 0 ≤ d) : ∀ (n : Nat) (a0 : Nat) (x1 : Int32) (h : PH) (r : PH), f_Mo_endsThought_2 n a0 x1 h = some r → E d 0 0 m_Mo_endsThought 2 [(0, .ref a0), (1, .int x1)] [] h (PV r) := by
  intro n
  induction n with
  | zero => intro a0 x1 h r hq; rw [f_Mo_endsThought_2] at hq; cases hq
  | succ n ih =>
    intro a0 x1 h r hq
    rw [f_Mo_endsThought_2] at hq
    refine E_iln 1 d_Mo_endsThought_2 rfl rfl ?_
    refine E_bi (v := 79) d_Mo_endsThought_3 (by decide) ?_
    refine E_jge (tgt := 26) d_Mo_endsThought_5 (by decide) (fun c => ?_) (fun c => ?_)
    · rw [if_pos c] at hq
      refine E_aln 0 d_Mo_endsThought_26 rfl rfl ?_
      refine E_ic (v := 0) d_Mo_endsThought_27 (by decide) ?_
      obtain ⟨h1, eh1, hq⟩ := bd hq
      refine E_pZ d_Mo_endsThought_28 lp_Mo_m_146 rfl eh1 ?_
      exact E_rV d_Mo_endsThought_31 rfl hq
    · rw [if_neg c] at hq
      refine E_aln 0 d_Mo_endsThought_8 rfl rfl ?_
      obtain ⟨v2, ev2, hq⟩ := bd hq
      refine E_gR d_Mo_endsThought_9 lk_Mo_7 rfl ev2 ?_
      refine E_iln 1 d_Mo_endsThought_12 rfl rfl ?_
      refine E_aln 0 d_Mo_endsThought_13 rfl rfl ?_
      obtain ⟨v3, ev3, hq⟩ := bd hq
      refine E_gR d_Mo_endsThought_14 lk_Mo_16 rfl ev3 ?_
      refine E_iln 1 d_Mo_endsThought_17 rfl rfl ?_
      obtain ⟨v4, ev4, hq⟩ := bd hq
      refine E_ra d_Mo_endsThought_18 ev4 ?_
      obtain ⟨h5, eh5, hq⟩ := bd hq
      refine E_wa d_Mo_endsThought_19 eh5 ?_
      refine E_inc (v := 1) (ls' := [(1, .int (x1 + 1)), (0, .ref a0)]) 1 d_Mo_endsThought_20 rfl (Nat.le_of_ble_eq_true rfl) (by decide) rfl ?_
      refine E_goto (tgt := 2) d_Mo_endsThought_23 (by decide) ?_
      exact E_sub (ks := [1, 0]) rfl <| ih _ _ _ _ hq
def f_Mo_endsThought (a0 : Nat) (h : PH) : Option (PH) :=
  f_Mo_endsThought_2 FU a0 0 h
theorem t_Mo_endsThought {d : Nat} (hd : 0 ≤ d) {a0 : Nat} {h : PH} {r : PH} (hq : f_Mo_endsThought a0 h = some r) : E d 0 0 m_Mo_endsThought 0 [(0, .ref a0)] [] h (PV r) := by
  unfold f_Mo_endsThought at hq
  refine E_ic (v := 0) d_Mo_endsThought_0 (by decide) ?_
  refine E_isn (ls' := [(1, .int 0), (0, .ref a0)]) d_Mo_endsThought_1 (Nat.le_of_ble_eq_true rfl) rfl ?_
  exact E_sub (ks := [1, 0]) rfl <| t_Mo_endsThought_2 (by omega) _ _ _ _ _ hq
def f_Mo_goes_127 (a0 : Nat) (s0 : Int32) (h : PH) : Option (Int32 × PH) :=
  (isO h 9 a0).bind fun _ =>
  (f_Mo_endsThought a0  h).bind fun h1 =>
  some (s0, h1)
theorem t_Mo_goes_127 {d : Nat} (hd : 7 ≤ d) {a0 : Nat} {s0 : Int32} {h : PH} {r : Int32 × PH} (hq : f_Mo_goes_127 a0 s0 h = some r) : E d 0 0 m_Mo_goes 127 [(0, .ref a0)] [.int s0] h (PI r) := by
  unfold f_Mo_goes_127 at hq
  obtain ⟨d, rfl⟩ : ∃ e, d = e + 1 := ⟨d - 1, by omega⟩
  refine E_is (ls' := [(4, .int s0), (0, .ref a0)]) d_Mo_goes_127 (Nat.le_of_ble_eq_true rfl) rfl ?_
  refine E_aln 1 d_Mo_goes_129 rfl rfl ?_
  obtain ⟨q2, eq2, hq⟩ := bd hq
  obtain ⟨h1, eh1, hq⟩ := bd hq
  refine E_cV0V d_Mo_goes_130 ck_Mo_409 rfl rfl eq2 (Nat.le_of_ble_eq_true rfl) (Nat.le_of_ble_eq_true rfl) (t_Mo_endsThought (by omega) eh1) ?_
  refine E_il 0 d_Mo_goes_133 rfl ?_
  exact E_rI d_Mo_goes_135 rfl hq
def f_Mo_goes_55 : Nat → Nat → Int32 → Int32 → Int32 → PH → Option (Int32 × PH)
  | 0, _, _, _, _, _ => none
  | n + 1, a0, x2, x3, x4, h =>
    (ldI h 9 a0 6).bind fun v1 =>
    if v1 ≤ x4 then
      if x2 = 0 then
        (ldR h 9 a0 1).bind fun v8 =>
        (rdA h v8 3).bind fun v9 =>
        f_Mo_goes_127 a0 v9 h
      else
        if x2 = 1 then
          (isO h 9 a0).bind fun _ =>
          (f_Mo_outSet a0  h).bind fun p4 =>
          (isO p4.2 9 a0).bind fun _ =>
          (f_Mo_onesOf a0 p4.1 p4.2).bind fun p6 =>
          f_Mo_goes_127 a0 p6.1 p6.2
        else
          if x2 = 2 then
            (ldR h 9 a0 1).bind fun v2 =>
            (rdA h v2 4).bind fun v3 =>
            f_Mo_goes_127 a0 v3 h
          else
            f_Mo_goes_127 a0 x3 h
    else
      (ldR h 9 a0 1).bind fun v10 =>
      (rdA h v10 (55 + x4)).bind fun v11 =>
      f_Mo_goes_55 n a0 x2 (x3 + v11) (x4 + 1) h
theorem t_Mo_goes_55 {d : Nat} (hd : 7 ≤ d) : ∀ (n : Nat) (a0 : Nat) (x2 : Int32) (x3 : Int32) (x4 : Int32) (h : PH) (r : Int32 × PH), f_Mo_goes_55 n a0 x2 x3 x4 h = some r → E d 0 0 m_Mo_goes 55 [(0, .ref a0), (2, .int x2), (3, .int x3), (4, .int x4)] [] h (PI r) := by
  intro n
  induction n with
  | zero => intro a0 x2 x3 x4 h r hq; rw [f_Mo_goes_55] at hq; cases hq
  | succ n ih =>
    intro a0 x2 x3 x4 h r hq
    rw [f_Mo_goes_55] at hq
    obtain ⟨d, rfl⟩ : ∃ e, d = e + 1 := ⟨d - 1, by omega⟩
    refine E_il 3 d_Mo_goes_55 rfl ?_
    refine E_aln 0 d_Mo_goes_57 rfl rfl ?_
    obtain ⟨v1, ev1, hq⟩ := bd hq
    refine E_gI d_Mo_goes_58 lk_Mo_152 rfl ev1 ?_
    refine E_jge (tgt := 83) d_Mo_goes_61 (by decide) (fun c => ?_) (fun c => ?_)
    · rw [if_pos c] at hq
      refine E_iln 1 d_Mo_goes_83 rfl rfl ?_
      refine E_zne (tgt := 96) d_Mo_goes_84 (by decide) (fun c => ?_) (fun c => ?_)
      · rw [if_neg c] at hq
        refine E_iln 1 d_Mo_goes_96 rfl rfl ?_
        refine E_ic (v := 1) d_Mo_goes_97 (by decide) ?_
        refine E_jne (tgt := 112) d_Mo_goes_98 (by decide) (fun c => ?_) (fun c => ?_)
        · rw [if_neg c] at hq
          refine E_iln 1 d_Mo_goes_112 rfl rfl ?_
          refine E_ic (v := 2) d_Mo_goes_113 (by decide) ?_
          refine E_jne (tgt := 126) d_Mo_goes_114 (by decide) (fun c => ?_) (fun c => ?_)
          · rw [if_neg c] at hq
            refine E_iln 2 d_Mo_goes_126 rfl rfl ?_
            exact E_sub (ks := [0]) rfl <| t_Mo_goes_127 (by omega) hq
          · rw [if_pos c] at hq
            refine E_aln 0 d_Mo_goes_117 rfl rfl ?_
            obtain ⟨v2, ev2, hq⟩ := bd hq
            refine E_gR d_Mo_goes_118 lk_Mo_7 rfl ev2 ?_
            refine E_ic (v := 4) d_Mo_goes_121 (by decide) ?_
            obtain ⟨v3, ev3, hq⟩ := bd hq
            refine E_ra d_Mo_goes_122 ev3 ?_
            refine E_goto (tgt := 127) d_Mo_goes_123 (by decide) ?_
            exact E_sub (ks := [0]) rfl <| t_Mo_goes_127 (by omega) hq
        · rw [if_pos c] at hq
          refine E_aln 0 d_Mo_goes_101 rfl rfl ?_
          refine E_aln 0 d_Mo_goes_102 rfl rfl ?_
          obtain ⟨q5, eq5, hq⟩ := bd hq
          obtain ⟨p4, ep4, hq⟩ := bd hq
          refine E_cV0I d_Mo_goes_103 ck_Mo_342 rfl rfl eq5 (Nat.le_of_ble_eq_true rfl) (Nat.le_of_ble_eq_true rfl) (t_Mo_outSet (by omega) ep4) ?_
          obtain ⟨q7, eq7, hq⟩ := bd hq
          obtain ⟨p6, ep6, hq⟩ := bd hq
          refine E_cV1I d_Mo_goes_106 ck_Mo_345 rfl rfl eq7 (Nat.le_of_ble_eq_true rfl) (Nat.le_of_ble_eq_true rfl) (t_Mo_onesOf (by omega) ep6) ?_
          refine E_goto (tgt := 127) d_Mo_goes_109 (by decide) ?_
          exact E_sub (ks := [0]) rfl <| t_Mo_goes_127 (by omega) hq
      · rw [if_pos c] at hq
        refine E_aln 0 d_Mo_goes_87 rfl rfl ?_
        obtain ⟨v8, ev8, hq⟩ := bd hq
        refine E_gR d_Mo_goes_88 lk_Mo_7 rfl ev8 ?_
        refine E_ic (v := 3) d_Mo_goes_91 (by decide) ?_
        obtain ⟨v9, ev9, hq⟩ := bd hq
        refine E_ra d_Mo_goes_92 ev9 ?_
        refine E_goto (tgt := 127) d_Mo_goes_93 (by decide) ?_
        exact E_sub (ks := [0]) rfl <| t_Mo_goes_127 (by omega) hq
    · rw [if_neg c] at hq
      refine E_iln 2 d_Mo_goes_64 rfl rfl ?_
      refine E_aln 0 d_Mo_goes_65 rfl rfl ?_
      obtain ⟨v10, ev10, hq⟩ := bd hq
      refine E_gR d_Mo_goes_66 lk_Mo_7 rfl ev10 ?_
      refine E_bi (v := 55) d_Mo_goes_69 (by decide) ?_
      refine E_il 3 d_Mo_goes_71 rfl ?_
      refine E_iadd d_Mo_goes_73 ?_
      obtain ⟨v11, ev11, hq⟩ := bd hq
      refine E_ra d_Mo_goes_74 ev11 ?_
      refine E_iadd d_Mo_goes_75 ?_
      refine E_isn (ls' := [(3, .int (x3 + v11)), (0, .ref a0), (2, .int x2), (4, .int x4)]) d_Mo_goes_76 (Nat.le_of_ble_eq_true rfl) rfl ?_
      refine E_inc (v := 1) (ls' := [(4, .int (x4 + 1)), (3, .int (x3 + v11)), (0, .ref a0), (2, .int x2)]) 3 d_Mo_goes_77 rfl (Nat.le_of_ble_eq_true rfl) (by decide) rfl ?_
      refine E_goto (tgt := 55) d_Mo_goes_80 (by decide) ?_
      exact E_sub (ks := [2, 3, 1, 0]) rfl <| ih _ _ _ _ _ _ hq
def f_Mo_goes_34 : Nat → Nat → Int32 → Int32 → Int32 → PH → Option (Int32 × PH)
  | 0, _, _, _, _, _ => none
  | n + 1, a0, x1, x2, x3, h =>
    if x1 ≤ x3 then
      f_Mo_goes_55 FU a0 x2 0 0 h
    else
      (isO h 9 a0).bind fun _ =>
      (f_Mo_goesBy a0  h).bind fun p1 =>
      f_Mo_goes_34 n a0 x1 x2 (x3 + 1) p1.2
theorem t_Mo_goes_34 {d : Nat} (hd : 7 ≤ d) : ∀ (n : Nat) (a0 : Nat) (x1 : Int32) (x2 : Int32) (x3 : Int32) (h : PH) (r : Int32 × PH), f_Mo_goes_34 n a0 x1 x2 x3 h = some r → E d 0 0 m_Mo_goes 34 [(0, .ref a0), (1, .int x1), (2, .int x2), (3, .int x3)] [] h (PI r) := by
  intro n
  induction n with
  | zero => intro a0 x1 x2 x3 h r hq; rw [f_Mo_goes_34] at hq; cases hq
  | succ n ih =>
    intro a0 x1 x2 x3 h r hq
    rw [f_Mo_goes_34] at hq
    obtain ⟨d, rfl⟩ : ∃ e, d = e + 1 := ⟨d - 1, by omega⟩
    refine E_iln 3 d_Mo_goes_34 rfl rfl ?_
    refine E_iln 1 d_Mo_goes_35 rfl rfl ?_
    refine E_jge (tgt := 50) d_Mo_goes_36 (by decide) (fun c => ?_) (fun c => ?_)
    · rw [if_pos c] at hq
      refine E_ic (v := 0) d_Mo_goes_50 (by decide) ?_
      refine E_isn (ls' := [(3, .int 0), (0, .ref a0), (1, .int x1), (2, .int x2)]) d_Mo_goes_51 (Nat.le_of_ble_eq_true rfl) rfl ?_
      refine E_ic (v := 0) d_Mo_goes_52 (by decide) ?_
      refine E_is (ls' := [(4, .int 0), (3, .int 0), (0, .ref a0), (1, .int x1), (2, .int x2)]) d_Mo_goes_53 (Nat.le_of_ble_eq_true rfl) rfl ?_
      exact E_sub (ks := [2, 4, 1, 0]) rfl <| t_Mo_goes_55 (by omega) _ _ _ _ _ _ _ hq
    · rw [if_neg c] at hq
      refine E_aln 0 d_Mo_goes_39 rfl rfl ?_
      obtain ⟨q2, eq2, hq⟩ := bd hq
      obtain ⟨p1, ep1, hq⟩ := bd hq
      refine E_cV0I d_Mo_goes_40 ck_Mo_403 rfl rfl eq2 (Nat.le_of_ble_eq_true rfl) (Nat.le_of_ble_eq_true rfl) (t_Mo_goesBy (by omega) ep1) ?_
      refine E_popi d_Mo_goes_43 ?_
      refine E_inc (v := 1) (ls' := [(3, .int (x3 + 1)), (0, .ref a0), (1, .int x1), (2, .int x2)]) 3 d_Mo_goes_44 rfl (Nat.le_of_ble_eq_true rfl) (by decide) rfl ?_
      refine E_goto (tgt := 34) d_Mo_goes_47 (by decide) ?_
      exact E_sub (ks := [1, 2, 3, 0]) rfl <| ih _ _ _ _ _ _ hq
def f_Mo_goes (a0 : Nat) (x1 : Int32) (x2 : Int32) (h : PH) : Option (Int32 × PH) :=
  (stI h 9 a0 0 0).bind fun h1 =>
  (isO h1 9 a0).bind fun _ =>
  (f_Mo_isIn a0 x1 1 60 h1).bind fun p2 =>
  if p2.1 = 0 then
    some ((-1), p2.2)
  else
    (isO p2.2 9 a0).bind fun _ =>
    (f_Mo_isIn a0 x2 0 3 p2.2).bind fun p4 =>
    if p4.1 = 0 then
      some ((-1), p4.2)
    else
      (isO p4.2 9 a0).bind fun _ =>
      (f_Mo_thinks a0  p4.2).bind fun h6 =>
      f_Mo_goes_34 FU a0 x1 x2 0 h6
theorem t_Mo_goes {d : Nat} (hd : 7 ≤ d) {a0 : Nat} {x1 : Int32} {x2 : Int32} {h : PH} {r : Int32 × PH} (hq : f_Mo_goes a0 x1 x2 h = some r) : E d 0 0 m_Mo_goes 0 [(0, .ref a0), (1, .int x1), (2, .int x2)] [] h (PI r) := by
  unfold f_Mo_goes at hq
  obtain ⟨d, rfl⟩ : ∃ e, d = e + 1 := ⟨d - 1, by omega⟩
  refine E_aln 0 d_Mo_goes_0 rfl rfl ?_
  refine E_ic (v := 0) d_Mo_goes_1 (by decide) ?_
  obtain ⟨h1, eh1, hq⟩ := bd hq
  refine E_pI d_Mo_goes_2 lp_Mo_m_140 rfl eh1 ?_
  refine E_aln 0 d_Mo_goes_5 rfl rfl ?_
  refine E_iln 1 d_Mo_goes_6 rfl rfl ?_
  refine E_ic (v := 1) d_Mo_goes_7 (by decide) ?_
  refine E_bi (v := 60) d_Mo_goes_8 (by decide) ?_
  obtain ⟨q3, eq3, hq⟩ := bd hq
  obtain ⟨p2, ep2, hq⟩ := bd hq
  refine E_cV3I d_Mo_goes_10 ck_Mo_162 rfl rfl eq3 (Nat.le_of_ble_eq_true rfl) (Nat.le_of_ble_eq_true rfl) (t_Mo_isIn (by omega) ep2) ?_
  refine E_zeq (tgt := 26) d_Mo_goes_13 (by decide) (fun c => ?_) (fun c => ?_)
  · rw [if_pos c] at hq
    refine E_ic (v := (-1)) d_Mo_goes_26 (by decide) ?_
    exact E_rI d_Mo_goes_27 rfl hq
  · rw [if_neg c] at hq
    refine E_aln 0 d_Mo_goes_16 rfl rfl ?_
    refine E_iln 2 d_Mo_goes_17 rfl rfl ?_
    refine E_ic (v := 0) d_Mo_goes_18 (by decide) ?_
    refine E_ic (v := 3) d_Mo_goes_19 (by decide) ?_
    obtain ⟨q5, eq5, hq⟩ := bd hq
    obtain ⟨p4, ep4, hq⟩ := bd hq
    refine E_cV3I d_Mo_goes_20 ck_Mo_162 rfl rfl eq5 (Nat.le_of_ble_eq_true rfl) (Nat.le_of_ble_eq_true rfl) (t_Mo_isIn (by omega) ep4) ?_
    refine E_zne (tgt := 28) d_Mo_goes_23 (by decide) (fun c => ?_) (fun c => ?_)
    · rw [if_neg c] at hq
      refine E_aln 0 d_Mo_goes_28 rfl rfl ?_
      obtain ⟨q7, eq7, hq⟩ := bd hq
      obtain ⟨h6, eh6, hq⟩ := bd hq
      refine E_cV0V d_Mo_goes_29 ck_Mo_406 rfl rfl eq7 (Nat.le_of_ble_eq_true rfl) (Nat.le_of_ble_eq_true rfl) (t_Mo_thinks (by omega) eh6) ?_
      refine E_ic (v := 0) d_Mo_goes_32 (by decide) ?_
      refine E_isn (ls' := [(3, .int 0), (0, .ref a0), (1, .int x1), (2, .int x2)]) d_Mo_goes_33 (Nat.le_of_ble_eq_true rfl) rfl ?_
      exact E_sub (ks := [1, 2, 3, 0]) rfl <| t_Mo_goes_34 (by omega) _ _ _ _ _ _ _ hq
    · rw [if_pos c] at hq
      refine E_ic (v := (-1)) d_Mo_goes_26 (by decide) ?_
      exact E_rI d_Mo_goes_27 rfl hq
