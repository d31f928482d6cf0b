def f_Tc_bag_44 (h : PH) : Option (Int32 × PH) :=
  some ((-1), h)
theorem t_Tc_bag_44 {d : Nat} (hd : 1 ≤ d) {h : PH} {r : Int32 × PH} (hq : f_Tc_bag_44 h = some r) : E d 0 0 m_Tc_bag 44 [] [] h (PI r) := by
  unfold f_Tc_bag_44 at hq
  obtain ⟨d, rfl⟩ : ∃ e, d = e + 1 := ⟨d - 1, by omega⟩
  refine E_ic (v := (-1)) d_Tc_bag_44 (by decide) ?_
  refine E_goto (tgt := 65) d_Tc_bag_45 (by decide) ?_
  exact E_rI d_Tc_bag_65 rfl hq
def f_Tc_bag (a0 : Nat) (x1 : Int32) (h : PH) : Option (Int32 × PH) :=
  if x1 = (-1) then
    (ldR h 8 a0 0).bind fun v6 =>
    (ldR h 1 v6 6).bind fun v7 =>
    (ldR h 7 v7 4).bind fun v8 =>
    (isO h 6 v8).bind fun _ =>
    (f_Row_clear v8  h).bind fun p9 =>
    (ldR p9.2 8 a0 0).bind fun v11 =>
    (ldR p9.2 1 v11 6).bind fun v12 =>
    (ldR p9.2 7 v12 3).bind fun v13 =>
    (isO p9.2 6 v13).bind fun _ =>
    (f_Row_clear v13  p9.2).bind fun p14 =>
    some (p14.1, p14.2)
  else
    if x1 < 1 then
      f_Tc_bag_44  h
    else
      if x1 ≤ 99 then
        (ldR h 8 a0 0).bind fun v1 =>
        (ldR h 1 v1 6).bind fun v2 =>
        (ldR h 7 v2 3).bind fun v3 =>
        (isO h 6 v3).bind fun _ =>
        (f_Row_put v3 x1 0 0 0 h).bind fun p4 =>
        some (p4.1, p4.2)
      else
        f_Tc_bag_44  h
theorem t_Tc_bag {d : Nat} (hd : 1 ≤ d) {a0 : Nat} {x1 : Int32} {h : PH} {r : Int32 × PH} (hq : f_Tc_bag a0 x1 h = some r) : E d 0 0 m_Tc_bag 0 [(0, .ref a0), (1, .int x1)] [] h (PI r) := by
  unfold f_Tc_bag at hq
  obtain ⟨d, rfl⟩ : ∃ e, d = e + 1 := ⟨d - 1, by omega⟩
  refine E_iln 1 d_Tc_bag_0 rfl rfl ?_
  refine E_ic (v := (-1)) d_Tc_bag_1 (by decide) ?_
  refine E_jne (tgt := 33) d_Tc_bag_2 (by decide) (fun c => ?_) (fun c => ?_)
  · rw [if_neg c] at hq
    refine E_iln 1 d_Tc_bag_33 rfl rfl ?_
    refine E_ic (v := 1) d_Tc_bag_34 (by decide) ?_
    refine E_jlt (tgt := 44) d_Tc_bag_35 (by decide) (fun c => ?_) (fun c => ?_)
    · rw [if_pos c] at hq
      exact E_sub (ks := []) rfl <| t_Tc_bag_44 (by omega) hq
    · rw [if_neg c] at hq
      refine E_iln 1 d_Tc_bag_38 rfl rfl ?_
      refine E_bi (v := 99) d_Tc_bag_39 (by decide) ?_
      refine E_jle (tgt := 48) d_Tc_bag_41 (by decide) (fun c => ?_) (fun c => ?_)
      · rw [if_pos c] at hq
        refine E_aln 0 d_Tc_bag_48 rfl rfl ?_
        obtain ⟨v1, ev1, hq⟩ := bd hq
        refine E_gR d_Tc_bag_49 lk_Tc_10 rfl ev1 ?_
        obtain ⟨v2, ev2, hq⟩ := bd hq
        refine E_gR d_Tc_bag_52 lk_Tc_230 rfl ev2 ?_
        obtain ⟨v3, ev3, hq⟩ := bd hq
        refine E_gR d_Tc_bag_55 lk_Tc_275 rfl ev3 ?_
        refine E_iln 1 d_Tc_bag_58 rfl rfl ?_
        refine E_ic (v := 0) d_Tc_bag_59 (by decide) ?_
        refine E_ic (v := 0) d_Tc_bag_60 (by decide) ?_
        refine E_ic (v := 0) d_Tc_bag_61 (by decide) ?_
        obtain ⟨q5, eq5, hq⟩ := bd hq
        obtain ⟨p4, ep4, hq⟩ := bd hq
        refine E_cV4I d_Tc_bag_62 ck_Tc_242 rfl rfl eq5 (Nat.le_of_ble_eq_true rfl) (Nat.le_of_ble_eq_true rfl) (t_Row_put (by omega) ep4) ?_
        exact E_rI d_Tc_bag_65 rfl hq
      · rw [if_neg c] at hq
        exact E_sub (ks := []) rfl <| t_Tc_bag_44 (by omega) hq
  · rw [if_pos c] at hq
    refine E_aln 0 d_Tc_bag_5 rfl rfl ?_
    obtain ⟨v6, ev6, hq⟩ := bd hq
    refine E_gR d_Tc_bag_6 lk_Tc_10 rfl ev6 ?_
    obtain ⟨v7, ev7, hq⟩ := bd hq
    refine E_gR d_Tc_bag_9 lk_Tc_230 rfl ev7 ?_
    obtain ⟨v8, ev8, hq⟩ := bd hq
    refine E_gR d_Tc_bag_12 lk_Tc_272 rfl ev8 ?_
    obtain ⟨q10, eq10, hq⟩ := bd hq
    obtain ⟨p9, ep9, hq⟩ := bd hq
    refine E_cV0I d_Tc_bag_15 ck_Tc_239 rfl rfl eq10 (Nat.le_of_ble_eq_true rfl) (Nat.le_of_ble_eq_true rfl) (t_Row_clear (by omega) ep9) ?_
    refine E_popi d_Tc_bag_18 ?_
    refine E_aln 0 d_Tc_bag_19 rfl rfl ?_
    obtain ⟨v11, ev11, hq⟩ := bd hq
    refine E_gR d_Tc_bag_20 lk_Tc_10 rfl ev11 ?_
    obtain ⟨v12, ev12, hq⟩ := bd hq
    refine E_gR d_Tc_bag_23 lk_Tc_230 rfl ev12 ?_
    obtain ⟨v13, ev13, hq⟩ := bd hq
    refine E_gR d_Tc_bag_26 lk_Tc_275 rfl ev13 ?_
    obtain ⟨q15, eq15, hq⟩ := bd hq
    obtain ⟨p14, ep14, hq⟩ := bd hq
    refine E_cV0I d_Tc_bag_29 ck_Tc_239 rfl rfl eq15 (Nat.le_of_ble_eq_true rfl) (Nat.le_of_ble_eq_true rfl) (t_Row_clear (by omega) ep14) ?_
    exact E_rI d_Tc_bag_32 rfl hq
def f_Tc_weighed (a0 : Nat) (x1 : Int32) (x2 : Int32) (h : PH) : Option (Int32 × PH) :=
  (ldR h 8 a0 0).bind fun v1 =>
  (ldR h 1 v1 6).bind fun v2 =>
  (ldR h 7 v2 3).bind fun v3 =>
  (ldI h 6 v3 2).bind fun v4 =>
  (f_Tc_within x1 ((jshl 1 v4) - 1) h).bind fun p5 =>
  if p5.1 = 0 then
    some ((-1), p5.2)
  else
    (f_Tc_within x2 9999 p5.2).bind fun p6 =>
    if p6.1 = 0 then
      some ((-1), p6.2)
    else
      (ldR p6.2 8 a0 0).bind fun v7 =>
      (ldR p6.2 1 v7 6).bind fun v8 =>
      (ldR p6.2 7 v8 4).bind fun v9 =>
      (isO p6.2 6 v9).bind fun _ =>
      (f_Row_put v9 x1 x2 0 0 p6.2).bind fun p10 =>
      some (p10.1, p10.2)
theorem t_Tc_weighed {d : Nat} (hd : 1 ≤ d) {a0 : Nat} {x1 : Int32} {x2 : Int32} {h : PH} {r : Int32 × PH} (hq : f_Tc_weighed a0 x1 x2 h = some r) : E d 0 0 m_Tc_weighed 0 [(0, .ref a0), (1, .int x1), (2, .int x2)] [] h (PI r) := by
  unfold f_Tc_weighed at hq
  obtain ⟨d, rfl⟩ : ∃ e, d = e + 1 := ⟨d - 1, by omega⟩
  refine E_iln 1 d_Tc_weighed_0 rfl rfl ?_
  refine E_ic (v := 1) d_Tc_weighed_1 (by decide) ?_
  refine E_aln 0 d_Tc_weighed_2 rfl rfl ?_
  obtain ⟨v1, ev1, hq⟩ := bd hq
  refine E_gR d_Tc_weighed_3 lk_Tc_10 rfl ev1 ?_
  obtain ⟨v2, ev2, hq⟩ := bd hq
  refine E_gR d_Tc_weighed_6 lk_Tc_230 rfl ev2 ?_
  obtain ⟨v3, ev3, hq⟩ := bd hq
  refine E_gR d_Tc_weighed_9 lk_Tc_275 rfl ev3 ?_
  obtain ⟨v4, ev4, hq⟩ := bd hq
  refine E_gI d_Tc_weighed_12 lk_Tc_144 rfl ev4 ?_
  refine E_ishl d_Tc_weighed_15 ?_
  refine E_ic (v := 1) d_Tc_weighed_16 (by decide) ?_
  refine E_isub d_Tc_weighed_17 ?_
  obtain ⟨p5, ep5, hq⟩ := bd hq
  refine E_cS2I d_Tc_weighed_18 ck_Tc_57 (Nat.le_of_ble_eq_true rfl) (Nat.le_of_ble_eq_true rfl) (t_Tc_within (by omega) ep5) ?_
  refine E_zeq (tgt := 34) d_Tc_weighed_21 (by decide) (fun c => ?_) (fun c => ?_)
  · rw [if_pos c] at hq
    refine E_ic (v := (-1)) d_Tc_weighed_34 (by decide) ?_
    exact E_rI d_Tc_weighed_35 rfl hq
  · rw [if_neg c] at hq
    refine E_iln 2 d_Tc_weighed_24 rfl rfl ?_
    refine E_si (v := 9999) d_Tc_weighed_25 (by decide) ?_
    obtain ⟨p6, ep6, hq⟩ := bd hq
    refine E_cS2I d_Tc_weighed_28 ck_Tc_57 (Nat.le_of_ble_eq_true rfl) (Nat.le_of_ble_eq_true rfl) (t_Tc_within (by omega) ep6) ?_
    refine E_zne (tgt := 36) d_Tc_weighed_31 (by decide) (fun c => ?_) (fun c => ?_)
    · rw [if_neg c] at hq
      refine E_aln 0 d_Tc_weighed_36 rfl rfl ?_
      obtain ⟨v7, ev7, hq⟩ := bd hq
      refine E_gR d_Tc_weighed_37 lk_Tc_10 rfl ev7 ?_
      obtain ⟨v8, ev8, hq⟩ := bd hq
      refine E_gR d_Tc_weighed_40 lk_Tc_230 rfl ev8 ?_
      obtain ⟨v9, ev9, hq⟩ := bd hq
      refine E_gR d_Tc_weighed_43 lk_Tc_272 rfl ev9 ?_
      refine E_iln 1 d_Tc_weighed_46 rfl rfl ?_
      refine E_iln 2 d_Tc_weighed_47 rfl rfl ?_
      refine E_ic (v := 0) d_Tc_weighed_48 (by decide) ?_
      refine E_ic (v := 0) d_Tc_weighed_49 (by decide) ?_
      obtain ⟨q11, eq11, hq⟩ := bd hq
      obtain ⟨p10, ep10, hq⟩ := bd hq
      refine E_cV4I d_Tc_weighed_50 ck_Tc_242 rfl rfl eq11 (Nat.le_of_ble_eq_true rfl) (Nat.le_of_ble_eq_true rfl) (t_Row_put (by omega) ep10) ?_
      exact E_rI d_Tc_weighed_53 rfl hq
    · rw [if_pos c] at hq
      refine E_ic (v := (-1)) d_Tc_weighed_34 (by decide) ?_
      exact E_rI d_Tc_weighed_35 rfl hq
def f_Desk_isAllowed_84 (k2 : Nat → Int32 → Int32 → PH → Option (Int32 × PH)) (k45 : Nat → Int32 → Int32 → Int32 → Int32 → Int32 → PH → Option (Int32 × PH)) (a1 : Nat) (x2 : Int32) (x3 : Int32) (x4 : Int32) (x6 : Int32) (s0 : Int32) (s1 : Int32) (h : PH) : Option (Int32 × PH) :=
  k45 a1 x2 x3 x4 (s1 + s0) (x6 + 1) h
theorem t_Desk_isAllowed_84 {d : Nat} (hd : 1 ≤ d) {k2 : Nat → Int32 → Int32 → PH → Option (Int32 × PH)} (hk2 : ∀ (a1 : Nat) (x2 : Int32) (x3 : Int32) (h : PH) (r : Int32 × PH), k2 a1 x2 x3 h = some r → E d 0 0 m_Desk_isAllowed 2 [(1, .ref a1), (2, .int x2), (3, .int x3)] [] h (PI r)) {k45 : Nat → Int32 → Int32 → Int32 → Int32 → Int32 → PH → Option (Int32 × PH)} (hk45 : ∀ (a1 : Nat) (x2 : Int32) (x3 : Int32) (x4 : Int32) (x5 : Int32) (x6 : Int32) (h : PH) (r : Int32 × PH), k45 a1 x2 x3 x4 x5 x6 h = some r → E d 0 0 m_Desk_isAllowed 45 [(1, .ref a1), (2, .int x2), (3, .int x3), (4, .int x4), (5, .int x5), (6, .int x6)] [] h (PI r)) {a1 : Nat} {x2 : Int32} {x3 : Int32} {x4 : Int32} {x6 : Int32} {s0 : Int32} {s1 : Int32} {h : PH} {r : Int32 × PH} (hq : f_Desk_isAllowed_84 k2 k45 a1 x2 x3 x4 x6 s0 s1 h = some r) : E d 0 0 m_Desk_isAllowed 84 [(1, .ref a1), (2, .int x2), (3, .int x3), (4, .int x4), (6, .int x6)] [.int s0, .int s1] h (PI r) := by
  unfold f_Desk_isAllowed_84 at hq
  obtain ⟨d, rfl⟩ : ∃ e, d = e + 1 := ⟨d - 1, by omega⟩
  refine E_iadd d_Desk_isAllowed_84 ?_
  refine E_is (ls' := [(5, .int (s1 + s0)), (1, .ref a1), (2, .int x2), (3, .int x3), (4, .int x4), (6, .int x6)]) d_Desk_isAllowed_85 (Nat.le_of_ble_eq_true rfl) rfl ?_
  refine E_inc (v := 1) (ls' := [(6, .int (x6 + 1)), (5, .int (s1 + s0)), (1, .ref a1), (2, .int x2), (3, .int x3), (4, .int x4)]) 5 d_Desk_isAllowed_87 rfl (Nat.le_of_ble_eq_true rfl) (by decide) rfl ?_
  refine E_goto (tgt := 45) d_Desk_isAllowed_90 (by decide) ?_
  exact E_sub (ks := [2, 3, 4, 5, 1, 0]) rfl <| hk45 _ _ _ _ _ _ _ _ hq
def f_Desk_isAllowed_45 (k2 : Nat → Int32 → Int32 → PH → Option (Int32 × PH)) : Nat → Nat → Int32 → Int32 → Int32 → Int32 → Int32 → PH → Option (Int32 × PH)
  | 0, _, _, _, _, _, _, _ => none
  | n + 1, a1, x2, x3, x4, x5, x6, h =>
    (ldR h 7 a1 3).bind fun v1 =>
    (ldI h 6 v1 2).bind fun v2 =>
    if v2 ≤ x6 then
      (ldR h 7 a1 4).bind fun v3 =>
      (isO h 6 v3).bind fun _ =>
      (f_Row_get v3 x3 1 h).bind fun p4 =>
      if x5 = p4.1 then
        k2 a1 x2 (x3 + 1) p4.2
      else
        rtZ 0 p4.2
    else
      if ((jshr x4 x6) &&& 1) = 1 then
        (ldR h 7 a1 3).bind fun v6 =>
        (isO h 6 v6).bind fun _ =>
        (f_Row_get v6 x6 0 h).bind fun p7 =>
        f_Desk_isAllowed_84 k2 (fun a1 x2 x3 x4 x5 x6 h => f_Desk_isAllowed_45 k2 n a1 x2 x3 x4 x5 x6 h) a1 x2 x3 x4 x6 p7.1 x5 p7.2
      else
        f_Desk_isAllowed_84 k2 (fun a1 x2 x3 x4 x5 x6 h => f_Desk_isAllowed_45 k2 n a1 x2 x3 x4 x5 x6 h) a1 x2 x3 x4 x6 0 x5 h
theorem t_Desk_isAllowed_45 {d : Nat} (hd : 1 ≤ d) {k2 : Nat → Int32 → Int32 → PH → Option (Int32 × PH)} (hk2 : ∀ (a1 : Nat) (x2 : Int32) (x3 : Int32) (h : PH) (r : Int32 × PH), k2 a1 x2 x3 h = some r → E d 0 0 m_Desk_isAllowed 2 [(1, .ref a1), (2, .int x2), (3, .int x3)] [] h (PI r)) : ∀ (n : Nat) (a1 : Nat) (x2 : Int32) (x3 : Int32) (x4 : Int32) (x5 : Int32) (x6 : Int32) (h : PH) (r : Int32 × PH), f_Desk_isAllowed_45 k2 n a1 x2 x3 x4 x5 x6 h = some r → E d 0 0 m_Desk_isAllowed 45 [(1, .ref a1), (2, .int x2), (3, .int x3), (4, .int x4), (5, .int x5), (6, .int x6)] [] h (PI r) := by
  intro n
  induction n with
  | zero => intro a1 x2 x3 x4 x5 x6 h r hq; rw [f_Desk_isAllowed_45] at hq; cases hq
  | succ n ih =>
    intro a1 x2 x3 x4 x5 x6 h r hq
    rw [f_Desk_isAllowed_45] at hq
    obtain ⟨d, rfl⟩ : ∃ e, d = e + 1 := ⟨d - 1, by omega⟩
    refine E_il 5 d_Desk_isAllowed_45 rfl ?_
    refine E_aln 0 d_Desk_isAllowed_47 rfl rfl ?_
    obtain ⟨v1, ev1, hq⟩ := bd hq
    refine E_gR d_Desk_isAllowed_48 lk_Desk_77 rfl ev1 ?_
    obtain ⟨v2, ev2, hq⟩ := bd hq
    refine E_gI d_Desk_isAllowed_51 lk_Desk_36 rfl ev2 ?_
    refine E_jge (tgt := 93) d_Desk_isAllowed_54 (by decide) (fun c => ?_) (fun c => ?_)
    · rw [if_pos c] at hq
      refine E_il 4 d_Desk_isAllowed_93 rfl ?_
      refine E_aln 0 d_Desk_isAllowed_95 rfl rfl ?_
      obtain ⟨v3, ev3, hq⟩ := bd hq
      refine E_gR d_Desk_isAllowed_96 lk_Desk_87 rfl ev3 ?_
      refine E_iln 2 d_Desk_isAllowed_99 rfl rfl ?_
      refine E_ic (v := 1) d_Desk_isAllowed_100 (by decide) ?_
      obtain ⟨q5, eq5, hq⟩ := bd hq
      obtain ⟨p4, ep4, hq⟩ := bd hq
      refine E_cV2I d_Desk_isAllowed_101 ck_Desk_30 rfl rfl eq5 (Nat.le_of_ble_eq_true rfl) (Nat.le_of_ble_eq_true rfl) (t_Row_get (by omega) ep4) ?_
      refine E_jeq (tgt := 109) d_Desk_isAllowed_104 (by decide) (fun c => ?_) (fun c => ?_)
      · rw [if_pos c] at hq
        refine E_inc (v := 1) (ls' := [(3, .int (x3 + 1)), (1, .ref a1), (2, .int x2), (4, .int x4), (5, .int x5), (6, .int x6)]) 2 d_Desk_isAllowed_109 rfl (Nat.le_of_ble_eq_true rfl) (by decide) rfl ?_
        refine E_goto (tgt := 2) d_Desk_isAllowed_112 (by decide) ?_
        exact E_sub (ks := [1, 2, 0]) rfl <| hk2 _ _ _ _ _ hq
      · rw [if_neg c] at hq
        refine E_ic (v := 0) d_Desk_isAllowed_107 (by decide) ?_
        exact E_rZ d_Desk_isAllowed_108 rfl hq
    · rw [if_neg c] at hq
      refine E_il 4 d_Desk_isAllowed_57 rfl ?_
      refine E_il 3 d_Desk_isAllowed_59 rfl ?_
      refine E_il 5 d_Desk_isAllowed_61 rfl ?_
      refine E_ishr d_Desk_isAllowed_63 ?_
      refine E_ic (v := 1) d_Desk_isAllowed_64 (by decide) ?_
      refine E_iand d_Desk_isAllowed_65 ?_
      refine E_ic (v := 1) d_Desk_isAllowed_66 (by decide) ?_
      refine E_jne (tgt := 83) d_Desk_isAllowed_67 (by decide) (fun c => ?_) (fun c => ?_)
      · rw [if_neg c] at hq
        refine E_ic (v := 0) d_Desk_isAllowed_83 (by decide) ?_
        exact E_sub (ks := [0, 1, 2, 3, 5]) rfl <| t_Desk_isAllowed_84 (by omega) hk2 ih hq
      · rw [if_pos c] at hq
        refine E_aln 0 d_Desk_isAllowed_70 rfl rfl ?_
        obtain ⟨v6, ev6, hq⟩ := bd hq
        refine E_gR d_Desk_isAllowed_71 lk_Desk_77 rfl ev6 ?_
        refine E_il 5 d_Desk_isAllowed_74 rfl ?_
        refine E_ic (v := 0) d_Desk_isAllowed_76 (by decide) ?_
        obtain ⟨q8, eq8, hq⟩ := bd hq
        obtain ⟨p7, ep7, hq⟩ := bd hq
        refine E_cV2I d_Desk_isAllowed_77 ck_Desk_30 rfl rfl eq8 (Nat.le_of_ble_eq_true rfl) (Nat.le_of_ble_eq_true rfl) (t_Row_get (by omega) ep7) ?_
        refine E_goto (tgt := 84) d_Desk_isAllowed_80 (by decide) ?_
        exact E_sub (ks := [0, 1, 2, 3, 5]) rfl <| t_Desk_isAllowed_84 (by omega) hk2 ih hq
def f_Desk_isAllowed_40 (k2 : Nat → Int32 → Int32 → PH → Option (Int32 × PH)) (a1 : Nat) (x2 : Int32) (x3 : Int32) (x4 : Int32) (s0 : Int32) (h : PH) : Option (Int32 × PH) :=
  f_Desk_isAllowed_45 k2 FU a1 x2 x3 x4 s0 0 h
theorem t_Desk_isAllowed_40 {d : Nat} (hd : 1 ≤ d) {k2 : Nat → Int32 → Int32 → PH → Option (Int32 × PH)} (hk2 : ∀ (a1 : Nat) (x2 : Int32) (x3 : Int32) (h : PH) (r : Int32 × PH), k2 a1 x2 x3 h = some r → E d 0 0 m_Desk_isAllowed 2 [(1, .ref a1), (2, .int x2), (3, .int x3)] [] h (PI r)) {a1 : Nat} {x2 : Int32} {x3 : Int32} {x4 : Int32} {s0 : Int32} {h : PH} {r : Int32 × PH} (hq : f_Desk_isAllowed_40 k2 a1 x2 x3 x4 s0 h = some r) : E d 0 0 m_Desk_isAllowed 40 [(1, .ref a1), (2, .int x2), (3, .int x3), (4, .int x4)] [.int s0] h (PI r) := by
  unfold f_Desk_isAllowed_40 at hq
  obtain ⟨d, rfl⟩ : ∃ e, d = e + 1 := ⟨d - 1, by omega⟩
  refine E_is (ls' := [(5, .int s0), (1, .ref a1), (2, .int x2), (3, .int x3), (4, .int x4)]) d_Desk_isAllowed_40 (Nat.le_of_ble_eq_true rfl) rfl ?_
  refine E_ic (v := 0) d_Desk_isAllowed_42 (by decide) ?_
  refine E_is (ls' := [(6, .int 0), (5, .int s0), (1, .ref a1), (2, .int x2), (3, .int x3), (4, .int x4)]) d_Desk_isAllowed_43 (Nat.le_of_ble_eq_true rfl) rfl ?_
  exact E_sub (ks := [2, 3, 4, 5, 1, 0]) rfl <| t_Desk_isAllowed_45 (by omega) hk2 _ _ _ _ _ _ _ _ _ hq
def f_Desk_isAllowed_2 : Nat → Nat → Int32 → Int32 → PH → Option (Int32 × PH)
  | 0, _, _, _, _ => none
  | n + 1, a1, x2, x3, h =>
    (ldR h 7 a1 4).bind fun v1 =>
    (ldI h 6 v1 2).bind fun v2 =>
    if v2 ≤ x3 then
      rtZ 1 h
    else
      (ldR h 7 a1 4).bind fun v3 =>
      (isO h 6 v3).bind fun _ =>
      (f_Row_get v3 x3 0 h).bind fun p4 =>
      if ((jshr p4.1 x2) &&& 1) = 1 then
        f_Desk_isAllowed_40 (fun a1 x2 x3 h => f_Desk_isAllowed_2 n a1 x2 x3 h) a1 x2 x3 p4.1 7 p4.2
      else
        f_Desk_isAllowed_40 (fun a1 x2 x3 h => f_Desk_isAllowed_2 n a1 x2 x3 h) a1 x2 x3 p4.1 0 p4.2
theorem t_Desk_isAllowed_2 {d : Nat} (hd : 1 ≤ d) : ∀ (n : Nat) (a1 : Nat) (x2 : Int32) (x3 : Int32) (h : PH) (r : Int32 × PH), f_Desk_isAllowed_2 n a1 x2 x3 h = some r → E d 0 0 m_Desk_isAllowed 2 [(1, .ref a1), (2, .int x2), (3, .int x3)] [] h (PI r) := by
  intro n
  induction n with
  | zero => intro a1 x2 x3 h r hq; rw [f_Desk_isAllowed_2] at hq; cases hq
  | succ n ih =>
    intro a1 x2 x3 h r hq
    rw [f_Desk_isAllowed_2] at hq
    obtain ⟨d, rfl⟩ : ∃ e, d = e + 1 := ⟨d - 1, by omega⟩
    refine E_iln 2 d_Desk_isAllowed_2 rfl rfl ?_
    refine E_aln 0 d_Desk_isAllowed_3 rfl rfl ?_
    obtain ⟨v1, ev1, hq⟩ := bd hq
    refine E_gR d_Desk_isAllowed_4 lk_Desk_87 rfl ev1 ?_
    obtain ⟨v2, ev2, hq⟩ := bd hq
    refine E_gI d_Desk_isAllowed_7 lk_Desk_36 rfl ev2 ?_
    refine E_jge (tgt := 115) d_Desk_isAllowed_10 (by decide) (fun c => ?_) (fun c => ?_)
    · rw [if_pos c] at hq
      refine E_ic (v := 1) d_Desk_isAllowed_115 (by decide) ?_
      exact E_rZ d_Desk_isAllowed_116 rfl hq
    · rw [if_neg c] at hq
      refine E_aln 0 d_Desk_isAllowed_13 rfl rfl ?_
      obtain ⟨v3, ev3, hq⟩ := bd hq
      refine E_gR d_Desk_isAllowed_14 lk_Desk_87 rfl ev3 ?_
      refine E_iln 2 d_Desk_isAllowed_17 rfl rfl ?_
      refine E_ic (v := 0) d_Desk_isAllowed_18 (by decide) ?_
      obtain ⟨q5, eq5, hq⟩ := bd hq
      obtain ⟨p4, ep4, hq⟩ := bd hq
      refine E_cV2I d_Desk_isAllowed_19 ck_Desk_30 rfl rfl eq5 (Nat.le_of_ble_eq_true rfl) (Nat.le_of_ble_eq_true rfl) (t_Row_get (by omega) ep4) ?_
      refine E_is (ls' := [(4, .int p4.1), (1, .ref a1), (2, .int x2), (3, .int x3)]) d_Desk_isAllowed_22 (Nat.le_of_ble_eq_true rfl) rfl ?_
      refine E_il 0 d_Desk_isAllowed_24 rfl ?_
      refine E_iln 2 d_Desk_isAllowed_26 rfl rfl ?_
      refine E_ishr d_Desk_isAllowed_27 ?_
      refine E_ic (v := 1) d_Desk_isAllowed_28 (by decide) ?_
      refine E_iand d_Desk_isAllowed_29 ?_
      refine E_ic (v := 1) d_Desk_isAllowed_30 (by decide) ?_
      refine E_jne (tgt := 39) d_Desk_isAllowed_31 (by decide) (fun c => ?_) (fun c => ?_)
      · rw [if_neg c] at hq
        refine E_ic (v := 0) d_Desk_isAllowed_39 (by decide) ?_
        exact E_sub (ks := [1, 2, 3, 0]) rfl <| t_Desk_isAllowed_40 (by omega) ih hq
      · rw [if_pos c] at hq
        refine E_bi (v := 7) d_Desk_isAllowed_34 (by decide) ?_
        refine E_goto (tgt := 40) d_Desk_isAllowed_36 (by decide) ?_
        exact E_sub (ks := [1, 2, 3, 0]) rfl <| t_Desk_isAllowed_40 (by omega) ih hq
def f_Desk_isAllowed (a0 : Nat) (a1 : Nat) (x2 : Int32) (h : PH) : Option (Int32 × PH) :=
  f_Desk_isAllowed_2 FU a1 x2 0 h
theorem t_Desk_isAllowed {d : Nat} (hd : 1 ≤ d) {a0 : Nat} {a1 : Nat} {x2 : Int32} {h : PH} {r : Int32 × PH} (hq : f_Desk_isAllowed a0 a1 x2 h = some r) : E d 0 0 m_Desk_isAllowed 0 [(0, .ref a0), (1, .ref a1), (2, .int x2)] [] h (PI r) := by
  unfold f_Desk_isAllowed at hq
  obtain ⟨d, rfl⟩ : ∃ e, d = e + 1 := ⟨d - 1, by omega⟩
  refine E_ic (v := 0) d_Desk_isAllowed_0 (by decide) ?_
  refine E_isn (ls' := [(3, .int 0), (0, .ref a0), (1, .ref a1), (2, .int x2)]) d_Desk_isAllowed_1 (Nat.le_of_ble_eq_true rfl) rfl ?_
  exact E_sub (ks := [2, 3, 0]) rfl <| t_Desk_isAllowed_2 (by omega) _ _ _ _ _ _ hq
def f_Desk_suspectSet_4 : Nat → Nat → Nat → Int32 → Int32 → PH → Option (Int32 × PH)
  | 0, _, _, _, _, _ => none
  | n + 1, a0, a1, x2, x3, h =>
    (ldR h 7 a1 3).bind fun v1 =>
    (ldI h 6 v1 2).bind fun v2 =>
    if v2 ≤ x3 then
      some (x2, h)
    else
      (isO h 0 a0).bind fun _ =>
      (f_Desk_isAllowed a0 a1 x3 h).bind fun p3 =>
      if p3.1 = 0 then
        f_Desk_suspectSet_4 n a0 a1 x2 (x3 + 1) p3.2
      else
        f_Desk_suspectSet_4 n a0 a1 (x2 ||| (jshl 1 x3)) (x3 + 1) p3.2
theorem t_Desk_suspectSet_4 {d : Nat} (hd : 2 ≤ d) : ∀ (n : Nat) (a0 : Nat) (a1 : Nat) (x2 : Int32) (x3 : Int32) (h : PH) (r : Int32 × PH), f_Desk_suspectSet_4 n a0 a1 x2 x3 h = some r → E d 0 0 m_Desk_suspectSet 4 [(0, .ref a0), (1, .ref a1), (2, .int x2), (3, .int x3)] [] h (PI r) := by
  intro n
  induction n with
  | zero => intro a0 a1 x2 x3 h r hq; rw [f_Desk_suspectSet_4] at hq; cases hq
  | succ n ih =>
    intro a0 a1 x2 x3 h r hq
    rw [f_Desk_suspectSet_4] at hq
    obtain ⟨d, rfl⟩ : ∃ e, d = e + 1 := ⟨d - 1, by omega⟩
    refine E_iln 3 d_Desk_suspectSet_4 rfl rfl ?_
    refine E_aln 1 d_Desk_suspectSet_5 rfl rfl ?_
    obtain ⟨v1, ev1, hq⟩ := bd hq
    refine E_gR d_Desk_suspectSet_6 lk_Desk_77 rfl ev1 ?_
    obtain ⟨v2, ev2, hq⟩ := bd hq
    refine E_gI d_Desk_suspectSet_9 lk_Desk_36 rfl ev2 ?_
    refine E_jge (tgt := 36) d_Desk_suspectSet_12 (by decide) (fun c => ?_) (fun c => ?_)
    · rw [if_pos c] at hq
      refine E_iln 2 d_Desk_suspectSet_36 rfl rfl ?_
      exact E_rI d_Desk_suspectSet_37 rfl hq
    · rw [if_neg c] at hq
      refine E_aln 0 d_Desk_suspectSet_15 rfl rfl ?_
      refine E_aln 1 d_Desk_suspectSet_16 rfl rfl ?_
      refine E_iln 3 d_Desk_suspectSet_17 rfl rfl ?_
      obtain ⟨q4, eq4, hq⟩ := bd hq
      obtain ⟨p3, ep3, hq⟩ := bd hq
      refine E_cV2I d_Desk_suspectSet_18 ck_Desk_83 rfl rfl eq4 (Nat.le_of_ble_eq_true rfl) (Nat.le_of_ble_eq_true rfl) (t_Desk_isAllowed (by omega) ep3) ?_
      refine E_zeq (tgt := 30) d_Desk_suspectSet_21 (by decide) (fun c => ?_) (fun c => ?_)
      · rw [if_pos c] at hq
        refine E_inc (v := 1) (ls' := [(3, .int (x3 + 1)), (0, .ref a0), (1, .ref a1), (2, .int x2)]) 3 d_Desk_suspectSet_30 rfl (Nat.le_of_ble_eq_true rfl) (by decide) rfl ?_
        refine E_goto (tgt := 4) d_Desk_suspectSet_33 (by decide) ?_
        exact E_sub (ks := [1, 2, 3, 0]) rfl <| ih _ _ _ _ _ _ hq
      · rw [if_neg c] at hq
        refine E_iln 2 d_Desk_suspectSet_24 rfl rfl ?_
        refine E_ic (v := 1) d_Desk_suspectSet_25 (by decide) ?_
        refine E_iln 3 d_Desk_suspectSet_26 rfl rfl ?_
        refine E_ishl d_Desk_suspectSet_27 ?_
        refine E_ior d_Desk_suspectSet_28 ?_
        refine E_isn (ls' := [(2, .int (x2 ||| (jshl 1 x3))), (0, .ref a0), (1, .ref a1), (3, .int x3)]) d_Desk_suspectSet_29 (Nat.le_of_ble_eq_true rfl) rfl ?_
        refine E_inc (v := 1) (ls' := [(3, .int (x3 + 1)), (2, .int (x2 ||| (jshl 1 x3))), (0, .ref a0), (1, .ref a1)]) 3 d_Desk_suspectSet_30 rfl (Nat.le_of_ble_eq_true rfl) (by decide) rfl ?_
        refine E_goto (tgt := 4) d_Desk_suspectSet_33 (by decide) ?_
        exact E_sub (ks := [2, 3, 1, 0]) rfl <| ih _ _ _ _ _ _ hq
def f_Desk_suspectSet (a0 : Nat) (a1 : Nat) (h : PH) : Option (Int32 × PH) :=
  f_Desk_suspectSet_4 FU a0 a1 0 0 h
theorem t_Desk_suspectSet {d : Nat} (hd : 2 ≤ d) {a0 : Nat} {a1 : Nat} {h : PH} {r : Int32 × PH} (hq : f_Desk_suspectSet a0 a1 h = some r) : E d 0 0 m_Desk_suspectSet 0 [(0, .ref a0), (1, .ref a1)] [] h (PI r) := by
  unfold f_Desk_suspectSet at hq
  obtain ⟨d, rfl⟩ : ∃ e, d = e + 1 := ⟨d - 1, by omega⟩
  refine E_ic (v := 0) d_Desk_suspectSet_0 (by decide) ?_
  refine E_isn (ls' := [(2, .int 0), (0, .ref a0), (1, .ref a1)]) d_Desk_suspectSet_1 (Nat.le_of_ble_eq_true rfl) rfl ?_
  refine E_ic (v := 0) d_Desk_suspectSet_2 (by decide) ?_
  refine E_isn (ls' := [(3, .int 0), (2, .int 0), (0, .ref a0), (1, .ref a1)]) d_Desk_suspectSet_3 (Nat.le_of_ble_eq_true rfl) rfl ?_
  exact E_sub (ks := [2, 3, 1, 0]) rfl <| t_Desk_suspectSet_4 (by omega) _ _ _ _ _ _ _ hq
def f_Desk_nextSet_80 (k19 : Int32 → Int32 → Int32 → Int32 → Int32 → PH → Option (Int32 × PH)) (x1 : Int32) (x2 : Int32) (x3 : Int32) (x4 : Int32) (x5 : Int32) (x9 : Int32) (h : PH) : Option (Int32 × PH) :=
  if x4 ≤ x9 then
    k19 x1 x2 x3 x4 (x5 + 1) h
  else
    k19 x1 x2 x5 x9 (x5 + 1) h
theorem t_Desk_nextSet_80 {d : Nat} (hd : 1 ≤ d) {k19 : Int32 → Int32 → Int32 → Int32 → Int32 → PH → Option (Int32 × PH)} (hk19 : ∀ (x1 : Int32) (x2 : Int32) (x3 : Int32) (x4 : Int32) (x5 : Int32) (h : PH) (r : Int32 × PH), k19 x1 x2 x3 x4 x5 h = some r → E d 0 0 m_Desk_nextSet 19 [(1, .int x1), (2, .int x2), (3, .int x3), (4, .int x4), (5, .int x5)] [] h (PI r)) {x1 : Int32} {x2 : Int32} {x3 : Int32} {x4 : Int32} {x5 : Int32} {x9 : Int32} {h : PH} {r : Int32 × PH} (hq : f_Desk_nextSet_80 k19 x1 x2 x3 x4 x5 x9 h = some r) : E d 0 0 m_Desk_nextSet 80 [(1, .int x1), (2, .int x2), (3, .int x3), (4, .int x4), (5, .int x5), (9, .int x9)] [] h (PI r) := by
  unfold f_Desk_nextSet_80 at hq
  obtain ⟨d, rfl⟩ : ∃ e, d = e + 1 := ⟨d - 1, by omega⟩
  refine E_il 5 d_Desk_nextSet_80 rfl ?_
  refine E_il 3 d_Desk_nextSet_82 rfl ?_
  refine E_jge (tgt := 94) d_Desk_nextSet_84 (by decide) (fun c => ?_) (fun c => ?_)
  · rw [if_pos c] at hq
    refine E_inc (v := 1) (ls' := [(5, .int (x5 + 1)), (1, .int x1), (2, .int x2), (3, .int x3), (4, .int x4), (9, .int x9)]) 4 d_Desk_nextSet_94 rfl (Nat.le_of_ble_eq_true rfl) (by decide) rfl ?_
    refine E_goto (tgt := 19) d_Desk_nextSet_97 (by decide) ?_
    exact E_sub (ks := [1, 2, 3, 4, 0]) rfl <| hk19 _ _ _ _ _ _ _ hq
  · rw [if_neg c] at hq
    refine E_il 4 d_Desk_nextSet_87 rfl ?_
    refine E_isn (ls' := [(3, .int x5), (1, .int x1), (2, .int x2), (4, .int x4), (5, .int x5), (9, .int x9)]) d_Desk_nextSet_89 (Nat.le_of_ble_eq_true rfl) rfl ?_
    refine E_il 5 d_Desk_nextSet_90 rfl ?_
    refine E_is (ls' := [(4, .int x9), (3, .int x5), (1, .int x1), (2, .int x2), (5, .int x5), (9, .int x9)]) d_Desk_nextSet_92 (Nat.le_of_ble_eq_true rfl) rfl ?_
    refine E_inc (v := 1) (ls' := [(5, .int (x5 + 1)), (4, .int x9), (3, .int x5), (1, .int x1), (2, .int x2), (9, .int x9)]) 4 d_Desk_nextSet_94 rfl (Nat.le_of_ble_eq_true rfl) (by decide) rfl ?_
    refine E_goto (tgt := 19) d_Desk_nextSet_97 (by decide) ?_
    exact E_sub (ks := [3, 4, 2, 1, 0]) rfl <| hk19 _ _ _ _ _ _ _ hq
def f_Desk_nextSet_19 : Nat → Int32 → Int32 → Int32 → Int32 → Int32 → PH → Option (Int32 × PH)
  | 0, _, _, _, _, _, _ => none
  | n + 1, x1, x2, x3, x4, x5, h =>
    if (jshl 1 x2) ≤ x5 then
      some (x3, h)
    else
      (f_Int_bitCount x5 h).bind fun p1 =>
      (f_Int_bitCount (x1 &&& x5) p1.2).bind fun p2 =>
      (f_Int_bitCount (x1 &&& (x5 ^^^ (-1))) p2.2).bind fun p3 =>
      if p1.1 = 2 then
        f_Desk_nextSet_80 (fun x1 x2 x3 x4 x5 h => f_Desk_nextSet_19 n x1 x2 x3 x4 x5 h) x1 x2 x3 x4 x5 (((jmax p2.1 p3.1) * 4) + p1.1) p3.2
      else
        if p1.1 = 3 then
          f_Desk_nextSet_80 (fun x1 x2 x3 x4 x5 h => f_Desk_nextSet_19 n x1 x2 x3 x4 x5 h) x1 x2 x3 x4 x5 (((jmax p2.1 p3.1) * 4) + p1.1) p3.2
        else
          f_Desk_nextSet_19 n x1 x2 x3 x4 (x5 + 1) p3.2
theorem t_Desk_nextSet_19 {d : Nat} (hd : 1 ≤ d) : ∀ (n : Nat) (x1 : Int32) (x2 : Int32) (x3 : Int32) (x4 : Int32) (x5 : Int32) (h : PH) (r : Int32 × PH), f_Desk_nextSet_19 n x1 x2 x3 x4 x5 h = some r → E d 0 0 m_Desk_nextSet 19 [(1, .int x1), (2, .int x2), (3, .int x3), (4, .int x4), (5, .int x5)] [] h (PI r) := by
  intro n
  induction n with
  | zero => intro x1 x2 x3 x4 x5 h r hq; rw [f_Desk_nextSet_19] at hq; cases hq
  | succ n ih =>
    intro x1 x2 x3 x4 x5 h r hq
    rw [f_Desk_nextSet_19] at hq
    obtain ⟨d, rfl⟩ : ∃ e, d = e + 1 := ⟨d - 1, by omega⟩
    refine E_il 4 d_Desk_nextSet_19 rfl ?_
    refine E_ic (v := 1) d_Desk_nextSet_21 (by decide) ?_
    refine E_iln 1 d_Desk_nextSet_22 rfl rfl ?_
    refine E_ishl d_Desk_nextSet_23 ?_
    refine E_jge (tgt := 100) d_Desk_nextSet_24 (by decide) (fun c => ?_) (fun c => ?_)
    · rw [if_pos c] at hq
      refine E_iln 2 d_Desk_nextSet_100 rfl rfl ?_
      exact E_rI d_Desk_nextSet_101 rfl hq
    · rw [if_neg c] at hq
      refine E_il 4 d_Desk_nextSet_27 rfl ?_
      obtain ⟨p1, ep1, hq⟩ := bd hq
      refine E_cS1I d_Desk_nextSet_29 ck_Desk_54 (Nat.le_of_ble_eq_true rfl) (Nat.le_of_ble_eq_true rfl) (t_Int_bitCount (by omega) ep1) ?_
      refine E_is (ls' := [(6, .int p1.1), (1, .int x1), (2, .int x2), (3, .int x3), (4, .int x4), (5, .int x5)]) d_Desk_nextSet_32 (Nat.le_of_ble_eq_true rfl) rfl ?_
      refine E_iln 1 d_Desk_nextSet_34 rfl rfl ?_
      refine E_il 5 d_Desk_nextSet_35 rfl ?_
      refine E_iand d_Desk_nextSet_37 ?_
      obtain ⟨p2, ep2, hq⟩ := bd hq
      refine E_cS1I d_Desk_nextSet_38 ck_Desk_54 (Nat.le_of_ble_eq_true rfl) (Nat.le_of_ble_eq_true rfl) (t_Int_bitCount (by omega) ep2) ?_
      refine E_is (ls' := [(7, .int p2.1), (6, .int p1.1), (1, .int x1), (2, .int x2), (3, .int x3), (4, .int x4), (5, .int x5)]) d_Desk_nextSet_41 (Nat.le_of_ble_eq_true rfl) rfl ?_
      refine E_iln 2 d_Desk_nextSet_43 rfl rfl ?_
      refine E_il 6 d_Desk_nextSet_44 rfl ?_
      refine E_ic (v := (-1)) d_Desk_nextSet_46 (by decide) ?_
      refine E_ixor d_Desk_nextSet_47 ?_
      refine E_iand d_Desk_nextSet_48 ?_
      obtain ⟨p3, ep3, hq⟩ := bd hq
      refine E_cS1I d_Desk_nextSet_49 ck_Desk_54 (Nat.le_of_ble_eq_true rfl) (Nat.le_of_ble_eq_true rfl) (t_Int_bitCount (by omega) ep3) ?_
      refine E_is (ls' := [(8, .int p3.1), (7, .int p2.1), (6, .int p1.1), (1, .int x1), (2, .int x2), (3, .int x3), (4, .int x4), (5, .int x5)]) d_Desk_nextSet_52 (Nat.le_of_ble_eq_true rfl) rfl ?_
      refine E_il 1 d_Desk_nextSet_54 rfl ?_
      refine E_il 0 d_Desk_nextSet_56 rfl ?_
      refine E_max d_Desk_nextSet_58 kj_Desk_60 (Nat.le_of_ble_eq_true rfl) ?_
      refine E_ic (v := 4) d_Desk_nextSet_61 (by decide) ?_
      refine E_imul d_Desk_nextSet_62 ?_
      refine E_il 2 d_Desk_nextSet_63 rfl ?_
      refine E_iadd d_Desk_nextSet_65 ?_
      refine E_is (ls' := [(9, .int (((jmax p2.1 p3.1) * 4) + p1.1)), (8, .int p3.1), (7, .int p2.1), (6, .int p1.1), (1, .int x1), (2, .int x2), (3, .int x3), (4, .int x4), (5, .int x5)]) d_Desk_nextSet_66 (Nat.le_of_ble_eq_true rfl) rfl ?_
      refine E_il 3 d_Desk_nextSet_68 rfl ?_
      refine E_ic (v := 2) d_Desk_nextSet_70 (by decide) ?_
      refine E_jeq (tgt := 80) d_Desk_nextSet_71 (by decide) (fun c => ?_) (fun c => ?_)
      · rw [if_pos c] at hq
        exact E_sub (ks := [4, 5, 6, 7, 8, 0]) rfl <| t_Desk_nextSet_80 (by omega) ih hq
      · rw [if_neg c] at hq
        refine E_il 3 d_Desk_nextSet_74 rfl ?_
        refine E_ic (v := 3) d_Desk_nextSet_76 (by decide) ?_
        refine E_jne (tgt := 94) d_Desk_nextSet_77 (by decide) (fun c => ?_) (fun c => ?_)
        · rw [if_neg c] at hq
          refine E_inc (v := 1) (ls' := [(5, .int (x5 + 1)), (9, .int (((jmax p2.1 p3.1) * 4) + p1.1)), (8, .int p3.1), (7, .int p2.1), (6, .int p1.1), (1, .int x1), (2, .int x2), (3, .int x3), (4, .int x4)]) 8 d_Desk_nextSet_94 rfl (Nat.le_of_ble_eq_true rfl) (by decide) rfl ?_
          refine E_goto (tgt := 19) d_Desk_nextSet_97 (by decide) ?_
          exact E_sub (ks := [5, 6, 7, 8, 0]) rfl <| ih _ _ _ _ _ _ _ hq
        · rw [if_pos c] at hq
          exact E_sub (ks := [4, 5, 6, 7, 8, 0]) rfl <| t_Desk_nextSet_80 (by omega) ih hq
def f_Desk_nextSet (a0 : Nat) (x1 : Int32) (x2 : Int32) (h : PH) : Option (Int32 × PH) :=
  (f_Int_bitCount x1 h).bind fun p1 =>
  if 2 ≤ p1.1 then
    f_Desk_nextSet_19 FU x1 x2 (-1) 1000000 0 p1.2
  else
    some ((-1), p1.2)
theorem t_Desk_nextSet {d : Nat} (hd : 1 ≤ d) {a0 : Nat} {x1 : Int32} {x2 : Int32} {h : PH} {r : Int32 × PH} (hq : f_Desk_nextSet a0 x1 x2 h = some r) : E d 0 0 m_Desk_nextSet 0 [(0, .ref a0), (1, .int x1), (2, .int x2)] [] h (PI r) := by
  unfold f_Desk_nextSet at hq
  obtain ⟨d, rfl⟩ : ∃ e, d = e + 1 := ⟨d - 1, by omega⟩
  refine E_iln 1 d_Desk_nextSet_0 rfl rfl ?_
  obtain ⟨p1, ep1, hq⟩ := bd hq
  refine E_cS1I d_Desk_nextSet_1 ck_Desk_54 (Nat.le_of_ble_eq_true rfl) (Nat.le_of_ble_eq_true rfl) (t_Int_bitCount (by omega) ep1) ?_
  refine E_ic (v := 2) d_Desk_nextSet_4 (by decide) ?_
  refine E_jge (tgt := 10) d_Desk_nextSet_5 (by decide) (fun c => ?_) (fun c => ?_)
  · rw [if_pos c] at hq
    refine E_ic (v := (-1)) d_Desk_nextSet_10 (by decide) ?_
    refine E_isn (ls' := [(3, .int (-1)), (0, .ref a0), (1, .int x1), (2, .int x2)]) d_Desk_nextSet_11 (Nat.le_of_ble_eq_true rfl) rfl ?_
    refine E_ldc1 d_Desk_nextSet_12 kc_Desk_65 ?_
    refine E_is (ls' := [(4, .int 1000000), (3, .int (-1)), (0, .ref a0), (1, .int x1), (2, .int x2)]) d_Desk_nextSet_14 (Nat.le_of_ble_eq_true rfl) rfl ?_
    refine E_ic (v := 0) d_Desk_nextSet_16 (by decide) ?_
    refine E_is (ls' := [(5, .int 0), (4, .int 1000000), (3, .int (-1)), (0, .ref a0), (1, .int x1), (2, .int x2)]) d_Desk_nextSet_17 (Nat.le_of_ble_eq_true rfl) rfl ?_
    exact E_sub (ks := [4, 5, 2, 1, 0]) rfl <| t_Desk_nextSet_19 (by omega) _ _ _ _ _ _ _ _ hq
  · rw [if_neg c] at hq
    refine E_ic (v := (-1)) d_Desk_nextSet_8 (by decide) ?_
    exact E_rI d_Desk_nextSet_9 rfl hq
def f_Tc_suspects (a0 : Nat) (x1 : Int32) (h : PH) : Option (Int32 × PH) :=
  (f_Tc_within x1 1 h).bind fun p1 =>
  if p1.1 = 0 then
    some ((-1), p1.2)
  else
    (ldR p1.2 8 a0 4).bind fun v2 =>
    (ldR p1.2 8 a0 0).bind fun v3 =>
    (ldR p1.2 1 v3 6).bind fun v4 =>
    (isO p1.2 0 v2).bind fun _ =>
    (f_Desk_suspectSet v2 v4 p1.2).bind fun p5 =>
    if x1 = 0 then
      some (p5.1, p5.2)
    else
      (ldR p5.2 8 a0 4).bind fun v7 =>
      (ldR p5.2 8 a0 0).bind fun v8 =>
      (ldR p5.2 1 v8 6).bind fun v9 =>
      (ldR p5.2 7 v9 3).bind fun v10 =>
      (ldI p5.2 6 v10 2).bind fun v11 =>
      (isO p5.2 0 v7).bind fun _ =>
      (f_Desk_nextSet v7 p5.1 v11 p5.2).bind fun p12 =>
      some (p12.1, p12.2)
theorem t_Tc_suspects {d : Nat} (hd : 3 ≤ d) {a0 : Nat} {x1 : Int32} {h : PH} {r : Int32 × PH} (hq : f_Tc_suspects a0 x1 h = some r) : E d 0 0 m_Tc_suspects 0 [(0, .ref a0), (1, .int x1)] [] h (PI r) := by
  unfold f_Tc_suspects at hq
  obtain ⟨d, rfl⟩ : ∃ e, d = e + 1 := ⟨d - 1, by omega⟩
  refine E_iln 1 d_Tc_suspects_0 rfl rfl ?_
  refine E_ic (v := 1) d_Tc_suspects_1 (by decide) ?_
  obtain ⟨p1, ep1, hq⟩ := bd hq
  refine E_cS2I d_Tc_suspects_2 ck_Tc_57 (Nat.le_of_ble_eq_true rfl) (Nat.le_of_ble_eq_true rfl) (t_Tc_within (by omega) ep1) ?_
  refine E_zne (tgt := 10) d_Tc_suspects_5 (by decide) (fun c => ?_) (fun c => ?_)
  · rw [if_neg c] at hq
    refine E_aln 0 d_Tc_suspects_10 rfl rfl ?_
    obtain ⟨v2, ev2, hq⟩ := bd hq
    refine E_gR d_Tc_suspects_11 lk_Tc_40 rfl ev2 ?_
    refine E_aln 0 d_Tc_suspects_14 rfl rfl ?_
    obtain ⟨v3, ev3, hq⟩ := bd hq
    refine E_gR d_Tc_suspects_15 lk_Tc_10 rfl ev3 ?_
    obtain ⟨v4, ev4, hq⟩ := bd hq
    refine E_gR d_Tc_suspects_18 lk_Tc_230 rfl ev4 ?_
    obtain ⟨q6, eq6, hq⟩ := bd hq
    obtain ⟨p5, ep5, hq⟩ := bd hq
    refine E_cV1I d_Tc_suspects_21 ck_Tc_278 rfl rfl eq6 (Nat.le_of_ble_eq_true rfl) (Nat.le_of_ble_eq_true rfl) (t_Desk_suspectSet (by omega) ep5) ?_
    refine E_isn (ls' := [(2, .int p5.1), (0, .ref a0), (1, .int x1)]) d_Tc_suspects_24 (Nat.le_of_ble_eq_true rfl) rfl ?_
    refine E_iln 2 d_Tc_suspects_25 rfl rfl ?_
    refine E_zne (tgt := 33) d_Tc_suspects_26 (by decide) (fun c => ?_) (fun c => ?_)
    · rw [if_neg c] at hq
      refine E_aln 1 d_Tc_suspects_33 rfl rfl ?_
      obtain ⟨v7, ev7, hq⟩ := bd hq
      refine E_gR d_Tc_suspects_34 lk_Tc_40 rfl ev7 ?_
      refine E_iln 0 d_Tc_suspects_37 rfl rfl ?_
      refine E_aln 1 d_Tc_suspects_38 rfl rfl ?_
      obtain ⟨v8, ev8, hq⟩ := bd hq
      refine E_gR d_Tc_suspects_39 lk_Tc_10 rfl ev8 ?_
      obtain ⟨v9, ev9, hq⟩ := bd hq
      refine E_gR d_Tc_suspects_42 lk_Tc_230 rfl ev9 ?_
      obtain ⟨v10, ev10, hq⟩ := bd hq
      refine E_gR d_Tc_suspects_45 lk_Tc_275 rfl ev10 ?_
      obtain ⟨v11, ev11, hq⟩ := bd hq
      refine E_gI d_Tc_suspects_48 lk_Tc_144 rfl ev11 ?_
      obtain ⟨q13, eq13, hq⟩ := bd hq
      obtain ⟨p12, ep12, hq⟩ := bd hq
      refine E_cV2I d_Tc_suspects_51 ck_Tc_282 rfl rfl eq13 (Nat.le_of_ble_eq_true rfl) (Nat.le_of_ble_eq_true rfl) (t_Desk_nextSet (by omega) ep12) ?_
      exact E_rI d_Tc_suspects_54 rfl hq
    · rw [if_pos c] at hq
      refine E_iln 0 d_Tc_suspects_29 rfl rfl ?_
      refine E_goto (tgt := 54) d_Tc_suspects_30 (by decide) ?_
      exact E_rI d_Tc_suspects_54 rfl hq
  · rw [if_pos c] at hq
    refine E_ic (v := (-1)) d_Tc_suspects_8 (by decide) ?_
    exact E_rI d_Tc_suspects_9 rfl hq
def f_Desk_isFirst_2 : Nat → Nat → Int32 → Int32 → PH → Option (Int32 × PH)
  | 0, _, _, _, _ => none
  | n + 1, a1, x2, x3, h =>
    if x2 ≤ x3 then
      rtZ 1 h
    else
      (isO h 6 a1).bind fun _ =>
      (f_Row_get a1 x3 0 h).bind fun p1 =>
      (isO p1.2 6 a1).bind fun _ =>
      (f_Row_get a1 x2 0 p1.2).bind fun p3 =>
      if p1.1 = p3.1 then
        (isO p3.2 6 a1).bind fun _ =>
        (f_Row_get a1 x3 1 p3.2).bind fun p5 =>
        (isO p5.2 6 a1).bind fun _ =>
        (f_Row_get a1 x2 1 p5.2).bind fun p7 =>
        if p5.1 = p7.1 then
          rtZ 0 p7.2
        else
          f_Desk_isFirst_2 n a1 x2 (x3 + 1) p7.2
      else
        f_Desk_isFirst_2 n a1 x2 (x3 + 1) p3.2
theorem t_Desk_isFirst_2 {d : Nat} (hd : 1 ≤ d) : ∀ (n : Nat) (a1 : Nat) (x2 : Int32) (x3 : Int32) (h : PH) (r : Int32 × PH), f_Desk_isFirst_2 n a1 x2 x3 h = some r → E d 0 0 m_Desk_isFirst 2 [(1, .ref a1), (2, .int x2), (3, .int x3)] [] h (PI r) := by
  intro n
  induction n with
  | zero => intro a1 x2 x3 h r hq; rw [f_Desk_isFirst_2] at hq; cases hq
  | succ n ih =>
    intro a1 x2 x3 h r hq
    rw [f_Desk_isFirst_2] at hq
    obtain ⟨d, rfl⟩ : ∃ e, d = e + 1 := ⟨d - 1, by omega⟩
    refine E_iln 2 d_Desk_isFirst_2 rfl rfl ?_
    refine E_iln 1 d_Desk_isFirst_3 rfl rfl ?_
    refine E_jge (tgt := 45) d_Desk_isFirst_4 (by decide) (fun c => ?_) (fun c => ?_)
    · rw [if_pos c] at hq
      refine E_ic (v := 1) d_Desk_isFirst_45 (by decide) ?_
      exact E_rZ d_Desk_isFirst_46 rfl hq
    · rw [if_neg c] at hq
      refine E_aln 0 d_Desk_isFirst_7 rfl rfl ?_
      refine E_iln 2 d_Desk_isFirst_8 rfl rfl ?_
      refine E_ic (v := 0) d_Desk_isFirst_9 (by decide) ?_
      obtain ⟨q2, eq2, hq⟩ := bd hq
      obtain ⟨p1, ep1, hq⟩ := bd hq
      refine E_cV2I d_Desk_isFirst_10 ck_Desk_30 rfl rfl eq2 (Nat.le_of_ble_eq_true rfl) (Nat.le_of_ble_eq_true rfl) (t_Row_get (by omega) ep1) ?_
      refine E_aln 0 d_Desk_isFirst_13 rfl rfl ?_
      refine E_iln 1 d_Desk_isFirst_14 rfl rfl ?_
      refine E_ic (v := 0) d_Desk_isFirst_15 (by decide) ?_
      obtain ⟨q4, eq4, hq⟩ := bd hq
      obtain ⟨p3, ep3, hq⟩ := bd hq
      refine E_cV2I d_Desk_isFirst_16 ck_Desk_30 rfl rfl eq4 (Nat.le_of_ble_eq_true rfl) (Nat.le_of_ble_eq_true rfl) (t_Row_get (by omega) ep3) ?_
      refine E_jne (tgt := 39) d_Desk_isFirst_19 (by decide) (fun c => ?_) (fun c => ?_)
      · rw [if_neg c] at hq
        refine E_inc (v := 1) (ls' := [(3, .int (x3 + 1)), (1, .ref a1), (2, .int x2)]) 2 d_Desk_isFirst_39 rfl (Nat.le_of_ble_eq_true rfl) (by decide) rfl ?_
        refine E_goto (tgt := 2) d_Desk_isFirst_42 (by decide) ?_
        exact E_sub (ks := [1, 2, 0]) rfl <| ih _ _ _ _ _ hq
      · rw [if_pos c] at hq
        refine E_aln 0 d_Desk_isFirst_22 rfl rfl ?_
        refine E_iln 2 d_Desk_isFirst_23 rfl rfl ?_
        refine E_ic (v := 1) d_Desk_isFirst_24 (by decide) ?_
        obtain ⟨q6, eq6, hq⟩ := bd hq
        obtain ⟨p5, ep5, hq⟩ := bd hq
        refine E_cV2I d_Desk_isFirst_25 ck_Desk_30 rfl rfl eq6 (Nat.le_of_ble_eq_true rfl) (Nat.le_of_ble_eq_true rfl) (t_Row_get (by omega) ep5) ?_
        refine E_aln 0 d_Desk_isFirst_28 rfl rfl ?_
        refine E_iln 1 d_Desk_isFirst_29 rfl rfl ?_
        refine E_ic (v := 1) d_Desk_isFirst_30 (by decide) ?_
        obtain ⟨q8, eq8, hq⟩ := bd hq
        obtain ⟨p7, ep7, hq⟩ := bd hq
        refine E_cV2I d_Desk_isFirst_31 ck_Desk_30 rfl rfl eq8 (Nat.le_of_ble_eq_true rfl) (Nat.le_of_ble_eq_true rfl) (t_Row_get (by omega) ep7) ?_
        refine E_jne (tgt := 39) d_Desk_isFirst_34 (by decide) (fun c => ?_) (fun c => ?_)
        · rw [if_neg c] at hq
          refine E_inc (v := 1) (ls' := [(3, .int (x3 + 1)), (1, .ref a1), (2, .int x2)]) 2 d_Desk_isFirst_39 rfl (Nat.le_of_ble_eq_true rfl) (by decide) rfl ?_
          refine E_goto (tgt := 2) d_Desk_isFirst_42 (by decide) ?_
          exact E_sub (ks := [1, 2, 0]) rfl <| ih _ _ _ _ _ hq
        · rw [if_pos c] at hq
          refine E_ic (v := 0) d_Desk_isFirst_37 (by decide) ?_
          exact E_rZ d_Desk_isFirst_38 rfl hq
def f_Desk_isFirst (a0 : Nat) (a1 : Nat) (x2 : Int32) (h : PH) : Option (Int32 × PH) :=
  f_Desk_isFirst_2 FU a1 x2 0 h
theorem t_Desk_isFirst {d : Nat} (hd : 1 ≤ d) {a0 : Nat} {a1 : Nat} {x2 : Int32} {h : PH} {r : Int32 × PH} (hq : f_Desk_isFirst a0 a1 x2 h = some r) : E d 0 0 m_Desk_isFirst 0 [(0, .ref a0), (1, .ref a1), (2, .int x2)] [] h (PI r) := by
  unfold f_Desk_isFirst at hq
  obtain ⟨d, rfl⟩ : ∃ e, d = e + 1 := ⟨d - 1, by omega⟩
  refine E_ic (v := 0) d_Desk_isFirst_0 (by decide) ?_
  refine E_isn (ls' := [(3, .int 0), (0, .ref a0), (1, .ref a1), (2, .int x2)]) d_Desk_isFirst_1 (Nat.le_of_ble_eq_true rfl) rfl ?_
  exact E_sub (ks := [2, 3, 0]) rfl <| t_Desk_isFirst_2 (by omega) _ _ _ _ _ _ hq
def f_Desk_goOn_153 (k23 : Nat → Nat → Int32 → PH → Option (PH)) (a0 : Nat) (a1 : Nat) (x2 : Int32) (s0 : Int32) (s1 : Int32) (s2 : Nat) (h : PH) : Option (PH) :=
  (wrA h s2 s1 s0).bind fun h1 =>
  k23 a0 a1 (x2 + 1) h1
theorem t_Desk_goOn_153 {d : Nat} (hd : 2 ≤ d) {k23 : Nat → Nat → Int32 → PH → Option (PH)} (hk23 : ∀ (a0 : Nat) (a1 : Nat) (x2 : Int32) (h : PH) (r : PH), k23 a0 a1 x2 h = some r → E d 0 0 m_Desk_goOn 23 [(0, .ref a0), (1, .ref a1), (2, .int x2)] [] h (PV r)) {a0 : Nat} {a1 : Nat} {x2 : Int32} {s0 : Int32} {s1 : Int32} {s2 : Nat} {h : PH} {r : PH} (hq : f_Desk_goOn_153 k23 a0 a1 x2 s0 s1 s2 h = some r) : E d 0 0 m_Desk_goOn 153 [(0, .ref a0), (1, .ref a1), (2, .int x2)] [.int s0, .int s1, .ref s2] h (PV r) := by
  unfold f_Desk_goOn_153 at hq
  obtain ⟨d, rfl⟩ : ∃ e, d = e + 1 := ⟨d - 1, by omega⟩
  obtain ⟨h1, eh1, hq⟩ := bd hq
  refine E_wa d_Desk_goOn_153 eh1 ?_
  refine E_inc (v := 1) (ls' := [(2, .int (x2 + 1)), (0, .ref a0), (1, .ref a1)]) 2 d_Desk_goOn_154 rfl (Nat.le_of_ble_eq_true rfl) (by decide) rfl ?_
  refine E_goto (tgt := 23) d_Desk_goOn_157 (by decide) ?_
  exact E_sub (ks := [1, 2, 0]) rfl <| hk23 _ _ _ _ _ hq
def f_Desk_goOn_23 : Nat → Nat → Nat → Int32 → PH → Option (PH)
  | 0, _, _, _, _ => none
  | n + 1, a0, a1, x2, h =>
    (ldI h 6 a1 2).bind fun v1 =>
    if v1 ≤ x2 then
      (ldR h 0 a0 4).bind fun v2 =>
      (ldR h 0 a0 5).bind fun v3 =>
      (stR h 0 a0 4 (some v3)).bind fun h4 =>
      (stR h4 0 a0 5 (some v2)).bind fun h5 =>
      some h5
    else
      (isO h 6 a1).bind fun _ =>
      (f_Row_get a1 x2 0 h).bind fun p6 =>
      (isO p6.2 6 a1).bind fun _ =>
      (f_Row_get a1 x2 1 p6.2).bind fun p8 =>
      (f_Tc_within p6.1 9 p8.2).bind fun p10 =>
      if p10.1 = 0 then
        f_Desk_goOn_23 n a0 a1 (x2 + 1) p10.2
      else
        (f_Tc_within p8.1 9 p10.2).bind fun p11 =>
        if p11.1 = 0 then
          f_Desk_goOn_23 n a0 a1 (x2 + 1) p11.2
        else
          (ldR p11.2 0 a0 4).bind fun v12 =>
          (rdA p11.2 v12 p6.1).bind fun v13 =>
          if v13 = (-1) then
            f_Desk_goOn_23 n a0 a1 (x2 + 1) p11.2
          else
            (isO p11.2 0 a0).bind fun _ =>
            (f_Desk_isFirst a0 a1 x2 p11.2).bind fun p14 =>
            if p14.1 = 0 then
              f_Desk_goOn_23 n a0 a1 (x2 + 1) p14.2
            else
              (ldR p14.2 0 a0 4).bind fun v16 =>
              (rdA p14.2 v16 p6.1).bind fun v17 =>
              (isO p14.2 6 a1).bind fun _ =>
              (f_Row_get a1 x2 2 p14.2).bind fun p18 =>
              (isO p18.2 6 a1).bind fun _ =>
              (f_Row_get a1 x2 3 p18.2).bind fun p20 =>
              (ldR p20.2 0 a0 5).bind fun v22 =>
              (ldR p20.2 0 a0 5).bind fun v23 =>
              (rdA p20.2 v23 p8.1).bind fun v24 =>
              if v24 = (-1) then
                f_Desk_goOn_153 (fun a0 a1 x2 h => f_Desk_goOn_23 n a0 a1 x2 h) a0 a1 x2 (jmin 99 ((jmax 0 (v17 - p18.1)) + p20.1)) p8.1 v22 p20.2
              else
                (ldR p20.2 0 a0 5).bind fun v25 =>
                (rdA p20.2 v25 p8.1).bind fun v26 =>
                f_Desk_goOn_153 (fun a0 a1 x2 h => f_Desk_goOn_23 n a0 a1 x2 h) a0 a1 x2 (jmin v26 (jmin 99 ((jmax 0 (v17 - p18.1)) + p20.1))) p8.1 v22 p20.2
theorem t_Desk_goOn_23 {d : Nat} (hd : 2 ≤ d) : ∀ (n : Nat) (a0 : Nat) (a1 : Nat) (x2 : Int32) (h : PH) (r : PH), f_Desk_goOn_23 n a0 a1 x2 h = some r → E d 0 0 m_Desk_goOn 23 [(0, .ref a0), (1, .ref a1), (2, .int x2)] [] h (PV r) := by
  intro n
  induction n with
  | zero => intro a0 a1 x2 h r hq; rw [f_Desk_goOn_23] at hq; cases hq
  | succ n ih =>
    intro a0 a1 x2 h r hq
    rw [f_Desk_goOn_23] at hq
    obtain ⟨d, rfl⟩ : ∃ e, d = e + 1 := ⟨d - 1, by omega⟩
    refine E_iln 2 d_Desk_goOn_23 rfl rfl ?_
    refine E_aln 1 d_Desk_goOn_24 rfl rfl ?_
    obtain ⟨v1, ev1, hq⟩ := bd hq
    refine E_gI d_Desk_goOn_25 lk_Desk_36 rfl ev1 ?_
    refine E_jge (tgt := 160) d_Desk_goOn_28 (by decide) (fun c => ?_) (fun c => ?_)
    · rw [if_pos c] at hq
      refine E_aln 0 d_Desk_goOn_160 rfl rfl ?_
      obtain ⟨v2, ev2, hq⟩ := bd hq
      refine E_gR d_Desk_goOn_161 lk_Desk_24 rfl ev2 ?_
      refine E_asn (ls' := [(2, .ref v2), (0, .ref a0), (1, .ref a1)]) d_Desk_goOn_164 (Nat.le_of_ble_eq_true rfl) rfl ?_
      refine E_aln 1 d_Desk_goOn_165 rfl rfl ?_
      refine E_aln 1 d_Desk_goOn_166 rfl rfl ?_
      obtain ⟨v3, ev3, hq⟩ := bd hq
      refine E_gR d_Desk_goOn_167 lk_Desk_27 rfl ev3 ?_
      obtain ⟨h4, eh4, hq⟩ := bd hq
      refine E_pR d_Desk_goOn_170 lp_Desk_m_24 rfl eh4 ?_
      refine E_aln 1 d_Desk_goOn_173 rfl rfl ?_
      refine E_aln 0 d_Desk_goOn_174 rfl rfl ?_
      obtain ⟨h5, eh5, hq⟩ := bd hq
      refine E_pR d_Desk_goOn_175 lp_Desk_m_27 rfl eh5 ?_
      exact E_rV d_Desk_goOn_178 rfl hq
    · rw [if_neg c] at hq
      refine E_aln 1 d_Desk_goOn_31 rfl rfl ?_
      refine E_iln 2 d_Desk_goOn_32 rfl rfl ?_
      refine E_ic (v := 0) d_Desk_goOn_33 (by decide) ?_
      obtain ⟨q7, eq7, hq⟩ := bd hq
      obtain ⟨p6, ep6, hq⟩ := bd hq
      refine E_cV2I d_Desk_goOn_34 ck_Desk_30 rfl rfl eq7 (Nat.le_of_ble_eq_true rfl) (Nat.le_of_ble_eq_true rfl) (t_Row_get (by omega) ep6) ?_
      refine E_isn (ls' := [(3, .int p6.1), (0, .ref a0), (1, .ref a1), (2, .int x2)]) d_Desk_goOn_37 (Nat.le_of_ble_eq_true rfl) rfl ?_
      refine E_aln 2 d_Desk_goOn_38 rfl rfl ?_
      refine E_iln 3 d_Desk_goOn_39 rfl rfl ?_
      refine E_ic (v := 1) d_Desk_goOn_40 (by decide) ?_
      obtain ⟨q9, eq9, hq⟩ := bd hq
      obtain ⟨p8, ep8, hq⟩ := bd hq
      refine E_cV2I d_Desk_goOn_41 ck_Desk_30 rfl rfl eq9 (Nat.le_of_ble_eq_true rfl) (Nat.le_of_ble_eq_true rfl) (t_Row_get (by omega) ep8) ?_
      refine E_is (ls' := [(4, .int p8.1), (3, .int p6.1), (0, .ref a0), (1, .ref a1), (2, .int x2)]) d_Desk_goOn_44 (Nat.le_of_ble_eq_true rfl) rfl ?_
      refine E_iln 1 d_Desk_goOn_46 rfl rfl ?_
      refine E_bi (v := 9) d_Desk_goOn_47 (by decide) ?_
      obtain ⟨p10, ep10, hq⟩ := bd hq
      refine E_cS2I d_Desk_goOn_49 ck_Desk_73 (Nat.le_of_ble_eq_true rfl) (Nat.le_of_ble_eq_true rfl) (t_Tc_within (by omega) ep10) ?_
      refine E_zeq (tgt := 154) d_Desk_goOn_52 (by decide) (fun c => ?_) (fun c => ?_)
      · rw [if_pos c] at hq
        refine E_inc (v := 1) (ls' := [(2, .int (x2 + 1)), (4, .int p8.1), (3, .int p6.1), (0, .ref a0), (1, .ref a1)]) 4 d_Desk_goOn_154 rfl (Nat.le_of_ble_eq_true rfl) (by decide) rfl ?_
        refine E_goto (tgt := 23) d_Desk_goOn_157 (by decide) ?_
        exact E_sub (ks := [3, 4, 0]) rfl <| ih _ _ _ _ _ hq
      · rw [if_neg c] at hq
        refine E_il 0 d_Desk_goOn_55 rfl ?_
        refine E_bi (v := 9) d_Desk_goOn_57 (by decide) ?_
        obtain ⟨p11, ep11, hq⟩ := bd hq
        refine E_cS2I d_Desk_goOn_59 ck_Desk_73 (Nat.le_of_ble_eq_true rfl) (Nat.le_of_ble_eq_true rfl) (t_Tc_within (by omega) ep11) ?_
        refine E_zeq (tgt := 154) d_Desk_goOn_62 (by decide) (fun c => ?_) (fun c => ?_)
        · rw [if_pos c] at hq
          refine E_inc (v := 1) (ls' := [(2, .int (x2 + 1)), (4, .int p8.1), (3, .int p6.1), (0, .ref a0), (1, .ref a1)]) 4 d_Desk_goOn_154 rfl (Nat.le_of_ble_eq_true rfl) (by decide) rfl ?_
          refine E_goto (tgt := 23) d_Desk_goOn_157 (by decide) ?_
          exact E_sub (ks := [3, 4, 0]) rfl <| ih _ _ _ _ _ hq
        · rw [if_neg c] at hq
          refine E_aln 2 d_Desk_goOn_65 rfl rfl ?_
          obtain ⟨v12, ev12, hq⟩ := bd hq
          refine E_gR d_Desk_goOn_66 lk_Desk_24 rfl ev12 ?_
          refine E_iln 1 d_Desk_goOn_69 rfl rfl ?_
          obtain ⟨v13, ev13, hq⟩ := bd hq
          refine E_ra d_Desk_goOn_70 ev13 ?_
          refine E_ic (v := (-1)) d_Desk_goOn_71 (by decide) ?_
          refine E_jeq (tgt := 154) d_Desk_goOn_72 (by decide) (fun c => ?_) (fun c => ?_)
          · rw [if_pos c] at hq
            refine E_inc (v := 1) (ls' := [(2, .int (x2 + 1)), (4, .int p8.1), (3, .int p6.1), (0, .ref a0), (1, .ref a1)]) 4 d_Desk_goOn_154 rfl (Nat.le_of_ble_eq_true rfl) (by decide) rfl ?_
            refine E_goto (tgt := 23) d_Desk_goOn_157 (by decide) ?_
            exact E_sub (ks := [3, 4, 0]) rfl <| ih _ _ _ _ _ hq
          · rw [if_neg c] at hq
            refine E_aln 2 d_Desk_goOn_75 rfl rfl ?_
            refine E_aln 3 d_Desk_goOn_76 rfl rfl ?_
            refine E_iln 4 d_Desk_goOn_77 rfl rfl ?_
            obtain ⟨q15, eq15, hq⟩ := bd hq
            obtain ⟨p14, ep14, hq⟩ := bd hq
            refine E_cV2I d_Desk_goOn_78 ck_Desk_94 rfl rfl eq15 (Nat.le_of_ble_eq_true rfl) (Nat.le_of_ble_eq_true rfl) (t_Desk_isFirst (by omega) ep14) ?_
            refine E_zeq (tgt := 154) d_Desk_goOn_81 (by decide) (fun c => ?_) (fun c => ?_)
            · rw [if_pos c] at hq
              refine E_inc (v := 1) (ls' := [(2, .int (x2 + 1)), (4, .int p8.1), (3, .int p6.1), (0, .ref a0), (1, .ref a1)]) 4 d_Desk_goOn_154 rfl (Nat.le_of_ble_eq_true rfl) (by decide) rfl ?_
              refine E_goto (tgt := 23) d_Desk_goOn_157 (by decide) ?_
              exact E_sub (ks := [3, 4, 0]) rfl <| ih _ _ _ _ _ hq
            · rw [if_neg c] at hq
              refine E_ic (v := 0) d_Desk_goOn_84 (by decide) ?_
              refine E_aln 2 d_Desk_goOn_85 rfl rfl ?_
              obtain ⟨v16, ev16, hq⟩ := bd hq
              refine E_gR d_Desk_goOn_86 lk_Desk_24 rfl ev16 ?_
              refine E_iln 1 d_Desk_goOn_89 rfl rfl ?_
              obtain ⟨v17, ev17, hq⟩ := bd hq
              refine E_ra d_Desk_goOn_90 ev17 ?_
              refine E_aln 3 d_Desk_goOn_91 rfl rfl ?_
              refine E_iln 4 d_Desk_goOn_92 rfl rfl ?_
              refine E_ic (v := 2) d_Desk_goOn_93 (by decide) ?_
              obtain ⟨q19, eq19, hq⟩ := bd hq
              obtain ⟨p18, ep18, hq⟩ := bd hq
              refine E_cV2I d_Desk_goOn_94 ck_Desk_30 rfl rfl eq19 (Nat.le_of_ble_eq_true rfl) (Nat.le_of_ble_eq_true rfl) (t_Row_get (by omega) ep18) ?_
              refine E_isub d_Desk_goOn_97 ?_
              refine E_max d_Desk_goOn_98 kj_Desk_60 (Nat.le_of_ble_eq_true rfl) ?_
              refine E_is (ls' := [(5, .int (jmax 0 (v17 - p18.1))), (4, .int p8.1), (3, .int p6.1), (0, .ref a0), (1, .ref a1), (2, .int x2)]) d_Desk_goOn_101 (Nat.le_of_ble_eq_true rfl) rfl ?_
              refine E_bi (v := 99) d_Desk_goOn_103 (by decide) ?_
              refine E_il 0 d_Desk_goOn_105 rfl ?_
              refine E_aln 4 d_Desk_goOn_107 rfl rfl ?_
              refine E_iln 5 d_Desk_goOn_108 rfl rfl ?_
              refine E_ic (v := 3) d_Desk_goOn_109 (by decide) ?_
              obtain ⟨q21, eq21, hq⟩ := bd hq
              obtain ⟨p20, ep20, hq⟩ := bd hq
              refine E_cV2I d_Desk_goOn_110 ck_Desk_30 rfl rfl eq21 (Nat.le_of_ble_eq_true rfl) (Nat.le_of_ble_eq_true rfl) (t_Row_get (by omega) ep20) ?_
              refine E_iadd d_Desk_goOn_113 ?_
              refine E_min d_Desk_goOn_114 kj_Desk_70 (Nat.le_of_ble_eq_true rfl) ?_
              refine E_is (ls' := [(5, .int (jmin 99 ((jmax 0 (v17 - p18.1)) + p20.1))), (4, .int p8.1), (3, .int p6.1), (0, .ref a0), (1, .ref a1), (2, .int x2)]) d_Desk_goOn_117 (Nat.le_of_ble_eq_true rfl) rfl ?_
              refine E_aln 3 d_Desk_goOn_119 rfl rfl ?_
              obtain ⟨v22, ev22, hq⟩ := bd hq
              refine E_gR d_Desk_goOn_120 lk_Desk_27 rfl ev22 ?_
              refine E_il 1 d_Desk_goOn_123 rfl ?_
              refine E_aln 3 d_Desk_goOn_125 rfl rfl ?_
              obtain ⟨v23, ev23, hq⟩ := bd hq
              refine E_gR d_Desk_goOn_126 lk_Desk_27 rfl ev23 ?_
              refine E_il 1 d_Desk_goOn_129 rfl ?_
              obtain ⟨v24, ev24, hq⟩ := bd hq
              refine E_ra d_Desk_goOn_131 ev24 ?_
              refine E_ic (v := (-1)) d_Desk_goOn_132 (by decide) ?_
              refine E_jne (tgt := 141) d_Desk_goOn_133 (by decide) (fun c => ?_) (fun c => ?_)
              · rw [if_neg c] at hq
                refine E_aln 3 d_Desk_goOn_141 rfl rfl ?_
                obtain ⟨v25, ev25, hq⟩ := bd hq
                refine E_gR d_Desk_goOn_142 lk_Desk_27 rfl ev25 ?_
                refine E_il 1 d_Desk_goOn_145 rfl ?_
                obtain ⟨v26, ev26, hq⟩ := bd hq
                refine E_ra d_Desk_goOn_147 ev26 ?_
                refine E_il 0 d_Desk_goOn_148 rfl ?_
                refine E_min d_Desk_goOn_150 kj_Desk_70 (Nat.le_of_ble_eq_true rfl) ?_
                exact E_sub (ks := [3, 4, 5]) rfl <| t_Desk_goOn_153 (by omega) ih hq
              · rw [if_pos c] at hq
                refine E_il 0 d_Desk_goOn_136 rfl ?_
                refine E_goto (tgt := 153) d_Desk_goOn_138 (by decide) ?_
                exact E_sub (ks := [3, 4, 5]) rfl <| t_Desk_goOn_153 (by omega) ih hq
def f_Desk_goOn_2 : Nat → Nat → Nat → Int32 → PH → Option (PH)
  | 0, _, _, _, _ => none
  | n + 1, a0, a1, x2, h =>
    if 10 ≤ x2 then
      f_Desk_goOn_23 FU a0 a1 0 h
    else
      (ldR h 0 a0 5).bind fun v1 =>
      (wrA h v1 x2 (-1)).bind fun h2 =>
      f_Desk_goOn_2 n a0 a1 (x2 + 1) h2
theorem t_Desk_goOn_2 {d : Nat} (hd : 2 ≤ d) : ∀ (n : Nat) (a0 : Nat) (a1 : Nat) (x2 : Int32) (h : PH) (r : PH), f_Desk_goOn_2 n a0 a1 x2 h = some r → E d 0 0 m_Desk_goOn 2 [(0, .ref a0), (1, .ref a1), (2, .int x2)] [] h (PV r) := by
  intro n
  induction n with
  | zero => intro a0 a1 x2 h r hq; rw [f_Desk_goOn_2] at hq; cases hq
  | succ n ih =>
    intro a0 a1 x2 h r hq
    rw [f_Desk_goOn_2] at hq
    obtain ⟨d, rfl⟩ : ∃ e, d = e + 1 := ⟨d - 1, by omega⟩
    refine E_iln 2 d_Desk_goOn_2 rfl rfl ?_
    refine E_bi (v := 10) d_Desk_goOn_3 (by decide) ?_
    refine E_jge (tgt := 21) d_Desk_goOn_5 (by decide) (fun c => ?_) (fun c => ?_)
    · rw [if_pos c] at hq
      refine E_ic (v := 0) d_Desk_goOn_21 (by decide) ?_
      refine E_isn (ls' := [(2, .int 0), (0, .ref a0), (1, .ref a1)]) d_Desk_goOn_22 (Nat.le_of_ble_eq_true rfl) rfl ?_
      exact E_sub (ks := [1, 2, 0]) rfl <| t_Desk_goOn_23 (by omega) _ _ _ _ _ _ hq
    · rw [if_neg c] at hq
      refine E_aln 0 d_Desk_goOn_8 rfl rfl ?_
      obtain ⟨v1, ev1, hq⟩ := bd hq
      refine E_gR d_Desk_goOn_9 lk_Desk_27 rfl ev1 ?_
      refine E_iln 2 d_Desk_goOn_12 rfl rfl ?_
      refine E_ic (v := (-1)) d_Desk_goOn_13 (by decide) ?_
      obtain ⟨h2, eh2, hq⟩ := bd hq
      refine E_wa d_Desk_goOn_14 eh2 ?_
      refine E_inc (v := 1) (ls' := [(2, .int (x2 + 1)), (0, .ref a0), (1, .ref a1)]) 2 d_Desk_goOn_15 rfl (Nat.le_of_ble_eq_true rfl) (by decide) rfl ?_
      refine E_goto (tgt := 2) d_Desk_goOn_18 (by decide) ?_
      exact E_sub (ks := [1, 2, 0]) rfl <| ih _ _ _ _ _ hq
def f_Desk_goOn (a0 : Nat) (a1 : Nat) (h : PH) : Option (PH) :=
  f_Desk_goOn_2 FU a0 a1 0 h
theorem t_Desk_goOn {d : Nat} (hd : 2 ≤ d) {a0 : Nat} {a1 : Nat} {h : PH} {r : PH} (hq : f_Desk_goOn a0 a1 h = some r) : E d 0 0 m_Desk_goOn 0 [(0, .ref a0), (1, .ref a1)] [] h (PV r) := by
  unfold f_Desk_goOn at hq
  obtain ⟨d, rfl⟩ : ∃ e, d = e + 1 := ⟨d - 1, by omega⟩
  refine E_ic (v := 0) d_Desk_goOn_0 (by decide) ?_
  refine E_isn (ls' := [(2, .int 0), (0, .ref a0), (1, .ref a1)]) d_Desk_goOn_1 (Nat.le_of_ble_eq_true rfl) rfl ?_
  exact E_sub (ks := [1, 2, 0]) rfl <| t_Desk_goOn_2 (by omega) _ _ _ _ _ _ hq
def f_Desk_driestWay_99 (k44 : Nat → Nat → Int32 → Int32 → Int32 → Int32 → Int32 → PH → Option (Int32 × PH)) (a0 : Nat) (a1 : Nat) (x3 : Int32) (x5 : Int32) (x6 : Int32) (x7 : Int32) (x8 : Int32) (h : PH) : Option (Int32 × PH) :=
  (isO h 0 a0).bind fun _ =>
  (f_Desk_goOn a0 a1 h).bind fun h1 =>
  k44 a0 a1 x3 x5 x6 x7 (x8 + 1) h1
theorem t_Desk_driestWay_99 {d : Nat} (hd : 3 ≤ d) {k44 : Nat → Nat → Int32 → Int32 → Int32 → Int32 → Int32 → PH → Option (Int32 × PH)} (hk44 : ∀ (a0 : Nat) (a1 : Nat) (x3 : Int32) (x5 : Int32) (x6 : Int32) (x7 : Int32) (x8 : Int32) (h : PH) (r : Int32 × PH), k44 a0 a1 x3 x5 x6 x7 x8 h = some r → E d 0 0 m_Desk_driestWay 44 [(0, .ref a0), (1, .ref a1), (3, .int x3), (5, .int x5), (6, .int x6), (7, .int x7), (8, .int x8)] [] h (PI r)) {a0 : Nat} {a1 : Nat} {x3 : Int32} {x5 : Int32} {x6 : Int32} {x7 : Int32} {x8 : Int32} {h : PH} {r : Int32 × PH} (hq : f_Desk_driestWay_99 k44 a0 a1 x3 x5 x6 x7 x8 h = some r) : E d 0 0 m_Desk_driestWay 99 [(0, .ref a0), (1, .ref a1), (3, .int x3), (5, .int x5), (6, .int x6), (7, .int x7), (8, .int x8)] [] h (PI r) := by
  unfold f_Desk_driestWay_99 at hq
  obtain ⟨d, rfl⟩ : ∃ e, d = e + 1 := ⟨d - 1, by omega⟩
  refine E_aln 0 d_Desk_driestWay_99 rfl rfl ?_
  refine E_aln 1 d_Desk_driestWay_100 rfl rfl ?_
  obtain ⟨q2, eq2, hq⟩ := bd hq
  obtain ⟨h1, eh1, hq⟩ := bd hq
  refine E_cV1V d_Desk_driestWay_101 ck_Desk_90 rfl rfl eq2 (Nat.le_of_ble_eq_true rfl) (Nat.le_of_ble_eq_true rfl) (t_Desk_goOn (by omega) eh1) ?_
  refine E_inc (v := 1) (ls' := [(8, .int (x8 + 1)), (0, .ref a0), (1, .ref a1), (3, .int x3), (5, .int x5), (6, .int x6), (7, .int x7)]) 6 d_Desk_driestWay_104 rfl (Nat.le_of_ble_eq_true rfl) (by decide) rfl ?_
  refine E_goto (tgt := 44) d_Desk_driestWay_107 (by decide) ?_
  exact E_sub (ks := [1, 2, 3, 4, 5, 6, 0]) rfl <| hk44 _ _ _ _ _ _ _ _ _ hq
def f_Desk_driestWay_91 (k44 : Nat → Nat → Int32 → Int32 → Int32 → Int32 → Int32 → PH → Option (Int32 × PH)) (a0 : Nat) (a1 : Nat) (x3 : Int32) (x5 : Int32) (x8 : Int32) (x9 : Int32) (h : PH) : Option (Int32 × PH) :=
  f_Desk_driestWay_99 k44 a0 a1 x3 x5 x9 x8 x8 h
theorem t_Desk_driestWay_91 {d : Nat} (hd : 3 ≤ d) {k44 : Nat → Nat → Int32 → Int32 → Int32 → Int32 → Int32 → PH → Option (Int32 × PH)} (hk44 : ∀ (a0 : Nat) (a1 : Nat) (x3 : Int32) (x5 : Int32) (x6 : Int32) (x7 : Int32) (x8 : Int32) (h : PH) (r : Int32 × PH), k44 a0 a1 x3 x5 x6 x7 x8 h = some r → E d 0 0 m_Desk_driestWay 44 [(0, .ref a0), (1, .ref a1), (3, .int x3), (5, .int x5), (6, .int x6), (7, .int x7), (8, .int x8)] [] h (PI r)) {a0 : Nat} {a1 : Nat} {x3 : Int32} {x5 : Int32} {x8 : Int32} {x9 : Int32} {h : PH} {r : Int32 × PH} (hq : f_Desk_driestWay_91 k44 a0 a1 x3 x5 x8 x9 h = some r) : E d 0 0 m_Desk_driestWay 91 [(0, .ref a0), (1, .ref a1), (3, .int x3), (5, .int x5), (8, .int x8), (9, .int x9)] [] h (PI r) := by
  unfold f_Desk_driestWay_91 at hq
  obtain ⟨d, rfl⟩ : ∃ e, d = e + 1 := ⟨d - 1, by omega⟩
  refine E_il 5 d_Desk_driestWay_91 rfl ?_
  refine E_is (ls' := [(6, .int x9), (0, .ref a0), (1, .ref a1), (3, .int x3), (5, .int x5), (8, .int x8), (9, .int x9)]) d_Desk_driestWay_93 (Nat.le_of_ble_eq_true rfl) rfl ?_
  refine E_il 5 d_Desk_driestWay_95 rfl ?_
  refine E_is (ls' := [(7, .int x8), (6, .int x9), (0, .ref a0), (1, .ref a1), (3, .int x3), (5, .int x5), (8, .int x8), (9, .int x9)]) d_Desk_driestWay_97 (Nat.le_of_ble_eq_true rfl) rfl ?_
  exact E_sub (ks := [2, 3, 4, 5, 1, 0, 6]) rfl <| t_Desk_driestWay_99 (by omega) hk44 hq
def f_Desk_driestWay_70 (k44 : Nat → Nat → Int32 → Int32 → Int32 → Int32 → Int32 → PH → Option (Int32 × PH)) (a0 : Nat) (a1 : Nat) (x3 : Int32) (x5 : Int32) (x6 : Int32) (x7 : Int32) (x8 : Int32) (s0 : Int32) (h : PH) : Option (Int32 × PH) :=
  if s0 = (-1) then
    f_Desk_driestWay_99 k44 a0 a1 x3 x5 x6 x7 x8 h
  else
    if x6 = (-1) then
      f_Desk_driestWay_91 k44 a0 a1 x3 x5 x8 s0 h
    else
      if x6 ≤ s0 then
        f_Desk_driestWay_99 k44 a0 a1 x3 x5 x6 x7 x8 h
      else
        f_Desk_driestWay_91 k44 a0 a1 x3 x5 x8 s0 h
theorem t_Desk_driestWay_70 {d : Nat} (hd : 3 ≤ d) {k44 : Nat → Nat → Int32 → Int32 → Int32 → Int32 → Int32 → PH → Option (Int32 × PH)} (hk44 : ∀ (a0 : Nat) (a1 : Nat) (x3 : Int32) (x5 : Int32) (x6 : Int32) (x7 : Int32) (x8 : Int32) (h : PH) (r : Int32 × PH), k44 a0 a1 x3 x5 x6 x7 x8 h = some r → E d 0 0 m_Desk_driestWay 44 [(0, .ref a0), (1, .ref a1), (3, .int x3), (5, .int x5), (6, .int x6), (7, .int x7), (8, .int x8)] [] h (PI r)) {a0 : Nat} {a1 : Nat} {x3 : Int32} {x5 : Int32} {x6 : Int32} {x7 : Int32} {x8 : Int32} {s0 : Int32} {h : PH} {r : Int32 × PH} (hq : f_Desk_driestWay_70 k44 a0 a1 x3 x5 x6 x7 x8 s0 h = some r) : E d 0 0 m_Desk_driestWay 70 [(0, .ref a0), (1, .ref a1), (3, .int x3), (5, .int x5), (6, .int x6), (7, .int x7), (8, .int x8)] [.int s0] h (PI r) := by
  unfold f_Desk_driestWay_70 at hq
  obtain ⟨d, rfl⟩ : ∃ e, d = e + 1 := ⟨d - 1, by omega⟩
  refine E_is (ls' := [(9, .int s0), (0, .ref a0), (1, .ref a1), (3, .int x3), (5, .int x5), (6, .int x6), (7, .int x7), (8, .int x8)]) d_Desk_driestWay_70 (Nat.le_of_ble_eq_true rfl) rfl ?_
  refine E_il 0 d_Desk_driestWay_72 rfl ?_
  refine E_ic (v := (-1)) d_Desk_driestWay_74 (by decide) ?_
  refine E_jeq (tgt := 99) d_Desk_driestWay_75 (by decide) (fun c => ?_) (fun c => ?_)
  · rw [if_pos c] at hq
    exact E_sub (ks := [1, 2, 3, 4, 5, 6, 7]) rfl <| t_Desk_driestWay_99 (by omega) hk44 hq
  · rw [if_neg c] at hq
    refine E_il 5 d_Desk_driestWay_78 rfl ?_
    refine E_ic (v := (-1)) d_Desk_driestWay_80 (by decide) ?_
    refine E_jeq (tgt := 91) d_Desk_driestWay_81 (by decide) (fun c => ?_) (fun c => ?_)
    · rw [if_pos c] at hq
      exact E_sub (ks := [1, 2, 3, 4, 7, 0]) rfl <| t_Desk_driestWay_91 (by omega) hk44 hq
    · rw [if_neg c] at hq
      refine E_il 0 d_Desk_driestWay_84 rfl ?_
      refine E_il 5 d_Desk_driestWay_86 rfl ?_
      refine E_jge (tgt := 99) d_Desk_driestWay_88 (by decide) (fun c => ?_) (fun c => ?_)
      · rw [if_pos c] at hq
        exact E_sub (ks := [1, 2, 3, 4, 5, 6, 7]) rfl <| t_Desk_driestWay_99 (by omega) hk44 hq
      · rw [if_neg c] at hq
        exact E_sub (ks := [1, 2, 3, 4, 7, 0]) rfl <| t_Desk_driestWay_91 (by omega) hk44 hq
def f_Desk_driestWay_44 : Nat → Nat → Nat → Int32 → Int32 → Int32 → Int32 → Int32 → PH → Option (Int32 × PH)
  | 0, _, _, _, _, _, _, _, _ => none
  | n + 1, a0, a1, x3, x5, x6, x7, x8, h =>
    if 12 < x8 then
      if x5 = 0 then
        some (x6, h)
      else
        some (x7, h)
    else
      (f_Tc_within x3 9 h).bind fun p1 =>
      if p1.1 = 0 then
        f_Desk_driestWay_70 (fun a0 a1 x3 x5 x6 x7 x8 h => f_Desk_driestWay_44 n a0 a1 x3 x5 x6 x7 x8 h) a0 a1 x3 x5 x6 x7 x8 (-1) p1.2
      else
        (ldR p1.2 0 a0 4).bind fun v2 =>
        (rdA p1.2 v2 x3).bind fun v3 =>
        f_Desk_driestWay_70 (fun a0 a1 x3 x5 x6 x7 x8 h => f_Desk_driestWay_44 n a0 a1 x3 x5 x6 x7 x8 h) a0 a1 x3 x5 x6 x7 x8 v3 p1.2
theorem t_Desk_driestWay_44 {d : Nat} (hd : 3 ≤ d) : ∀ (n : Nat) (a0 : Nat) (a1 : Nat) (x3 : Int32) (x5 : Int32) (x6 : Int32) (x7 : Int32) (x8 : Int32) (h : PH) (r : Int32 × PH), f_Desk_driestWay_44 n a0 a1 x3 x5 x6 x7 x8 h = some r → E d 0 0 m_Desk_driestWay 44 [(0, .ref a0), (1, .ref a1), (3, .int x3), (5, .int x5), (6, .int x6), (7, .int x7), (8, .int x8)] [] h (PI r) := by
  intro n
  induction n with
  | zero => intro a0 a1 x3 x5 x6 x7 x8 h r hq; rw [f_Desk_driestWay_44] at hq; cases hq
  | succ n ih =>
    intro a0 a1 x3 x5 x6 x7 x8 h r hq
    rw [f_Desk_driestWay_44] at hq
    obtain ⟨d, rfl⟩ : ∃ e, d = e + 1 := ⟨d - 1, by omega⟩
    refine E_il 6 d_Desk_driestWay_44 rfl ?_
    refine E_bi (v := 12) d_Desk_driestWay_46 (by decide) ?_
    refine E_jgt (tgt := 110) d_Desk_driestWay_48 (by decide) (fun c => ?_) (fun c => ?_)
    · rw [if_pos c] at hq
      refine E_il 3 d_Desk_driestWay_110 rfl ?_
      refine E_zne (tgt := 120) d_Desk_driestWay_112 (by decide) (fun c => ?_) (fun c => ?_)
      · rw [if_neg c] at hq
        refine E_il 5 d_Desk_driestWay_120 rfl ?_
        exact E_rI d_Desk_driestWay_122 rfl hq
      · rw [if_pos c] at hq
        refine E_il 4 d_Desk_driestWay_115 rfl ?_
        refine E_goto (tgt := 122) d_Desk_driestWay_117 (by decide) ?_
        exact E_rI d_Desk_driestWay_122 rfl hq
    · rw [if_neg c] at hq
      refine E_iln 2 d_Desk_driestWay_51 rfl rfl ?_
      refine E_bi (v := 9) d_Desk_driestWay_52 (by decide) ?_
      obtain ⟨p1, ep1, hq⟩ := bd hq
      refine E_cS2I d_Desk_driestWay_54 ck_Desk_73 (Nat.le_of_ble_eq_true rfl) (Nat.le_of_ble_eq_true rfl) (t_Tc_within (by omega) ep1) ?_
      refine E_zeq (tgt := 69) d_Desk_driestWay_57 (by decide) (fun c => ?_) (fun c => ?_)
      · rw [if_pos c] at hq
        refine E_ic (v := (-1)) d_Desk_driestWay_69 (by decide) ?_
        exact t_Desk_driestWay_70 (by omega) ih hq
      · rw [if_neg c] at hq
        refine E_aln 0 d_Desk_driestWay_60 rfl rfl ?_
        obtain ⟨v2, ev2, hq⟩ := bd hq
        refine E_gR d_Desk_driestWay_61 lk_Desk_24 rfl ev2 ?_
        refine E_iln 2 d_Desk_driestWay_64 rfl rfl ?_
        obtain ⟨v3, ev3, hq⟩ := bd hq
        refine E_ra d_Desk_driestWay_65 ev3 ?_
        refine E_goto (tgt := 70) d_Desk_driestWay_66 (by decide) ?_
        exact t_Desk_driestWay_70 (by omega) ih hq
def f_Desk_driestWay_28 (k3 : Nat → Nat → Int32 → Int32 → Int32 → Int32 → Int32 → PH → Option (Int32 × PH)) (a0 : Nat) (a1 : Nat) (x2 : Int32) (x3 : Int32) (x4 : Int32) (x5 : Int32) (x6 : Int32) (s0 : Int32) (s1 : Int32) (s2 : Nat) (h : PH) : Option (Int32 × PH) :=
  (wrA h s2 s1 s0).bind fun h1 =>
  k3 a0 a1 x2 x3 x4 x5 (x6 + 1) h1
theorem t_Desk_driestWay_28 {d : Nat} (hd : 3 ≤ d) {k3 : Nat → Nat → Int32 → Int32 → Int32 → Int32 → Int32 → PH → Option (Int32 × PH)} (hk3 : ∀ (a0 : Nat) (a1 : Nat) (x2 : Int32) (x3 : Int32) (x4 : Int32) (x5 : Int32) (x6 : Int32) (h : PH) (r : Int32 × PH), k3 a0 a1 x2 x3 x4 x5 x6 h = some r → E d 0 0 m_Desk_driestWay 3 [(0, .ref a0), (1, .ref a1), (2, .int x2), (3, .int x3), (4, .int x4), (5, .int x5), (6, .int x6)] [] h (PI r)) {a0 : Nat} {a1 : Nat} {x2 : Int32} {x3 : Int32} {x4 : Int32} {x5 : Int32} {x6 : Int32} {s0 : Int32} {s1 : Int32} {s2 : Nat} {h : PH} {r : Int32 × PH} (hq : f_Desk_driestWay_28 k3 a0 a1 x2 x3 x4 x5 x6 s0 s1 s2 h = some r) : E d 0 0 m_Desk_driestWay 28 [(0, .ref a0), (1, .ref a1), (2, .int x2), (3, .int x3), (4, .int x4), (5, .int x5), (6, .int x6)] [.int s0, .int s1, .ref s2] h (PI r) := by
  unfold f_Desk_driestWay_28 at hq
  obtain ⟨d, rfl⟩ : ∃ e, d = e + 1 := ⟨d - 1, by omega⟩
  obtain ⟨h1, eh1, hq⟩ := bd hq
  refine E_wa d_Desk_driestWay_28 eh1 ?_
  refine E_inc (v := 1) (ls' := [(6, .int (x6 + 1)), (0, .ref a0), (1, .ref a1), (2, .int x2), (3, .int x3), (4, .int x4), (5, .int x5)]) 6 d_Desk_driestWay_29 rfl (Nat.le_of_ble_eq_true rfl) (by decide) rfl ?_
  refine E_goto (tgt := 3) d_Desk_driestWay_32 (by decide) ?_
  exact E_sub (ks := [1, 2, 3, 4, 5, 6, 0]) rfl <| hk3 _ _ _ _ _ _ _ _ _ hq
def f_Desk_driestWay_3 : Nat → Nat → Nat → Int32 → Int32 → Int32 → Int32 → Int32 → PH → Option (Int32 × PH)
  | 0, _, _, _, _, _, _, _, _ => none
  | n + 1, a0, a1, x2, x3, x4, x5, x6, h =>
    if 10 ≤ x6 then
      f_Desk_driestWay_44 FU a0 a1 x3 x5 (-1) (-1) 0 h
    else
      (ldR h 0 a0 4).bind fun v1 =>
      if x6 = x2 then
        f_Desk_driestWay_28 (fun a0 a1 x2 x3 x4 x5 x6 h => f_Desk_driestWay_3 n a0 a1 x2 x3 x4 x5 x6 h) a0 a1 x2 x3 x4 x5 x6 x4 x6 v1 h
      else
        f_Desk_driestWay_28 (fun a0 a1 x2 x3 x4 x5 x6 h => f_Desk_driestWay_3 n a0 a1 x2 x3 x4 x5 x6 h) a0 a1 x2 x3 x4 x5 x6 (-1) x6 v1 h
theorem t_Desk_driestWay_3 {d : Nat} (hd : 3 ≤ d) : ∀ (n : Nat) (a0 : Nat) (a1 : Nat) (x2 : Int32) (x3 : Int32) (x4 : Int32) (x5 : Int32) (x6 : Int32) (h : PH) (r : Int32 × PH), f_Desk_driestWay_3 n a0 a1 x2 x3 x4 x5 x6 h = some r → E d 0 0 m_Desk_driestWay 3 [(0, .ref a0), (1, .ref a1), (2, .int x2), (3, .int x3), (4, .int x4), (5, .int x5), (6, .int x6)] [] h (PI r) := by
  intro n
  induction n with
  | zero => intro a0 a1 x2 x3 x4 x5 x6 h r hq; rw [f_Desk_driestWay_3] at hq; cases hq
  | succ n ih =>
    intro a0 a1 x2 x3 x4 x5 x6 h r hq
    rw [f_Desk_driestWay_3] at hq
    obtain ⟨d, rfl⟩ : ∃ e, d = e + 1 := ⟨d - 1, by omega⟩
    refine E_il 6 d_Desk_driestWay_3 rfl ?_
    refine E_bi (v := 10) d_Desk_driestWay_5 (by decide) ?_
    refine E_jge (tgt := 35) d_Desk_driestWay_7 (by decide) (fun c => ?_) (fun c => ?_)
    · rw [if_pos c] at hq
      refine E_ic (v := (-1)) d_Desk_driestWay_35 (by decide) ?_
      refine E_is (ls' := [(6, .int (-1)), (0, .ref a0), (1, .ref a1), (2, .int x2), (3, .int x3), (4, .int x4), (5, .int x5)]) d_Desk_driestWay_36 (Nat.le_of_ble_eq_true rfl) rfl ?_
      refine E_ic (v := (-1)) d_Desk_driestWay_38 (by decide) ?_
      refine E_is (ls' := [(7, .int (-1)), (6, .int (-1)), (0, .ref a0), (1, .ref a1), (2, .int x2), (3, .int x3), (4, .int x4), (5, .int x5)]) d_Desk_driestWay_39 (Nat.le_of_ble_eq_true rfl) rfl ?_
      refine E_ic (v := 0) d_Desk_driestWay_41 (by decide) ?_
      refine E_is (ls' := [(8, .int 0), (7, .int (-1)), (6, .int (-1)), (0, .ref a0), (1, .ref a1), (2, .int x2), (3, .int x3), (4, .int x4), (5, .int x5)]) d_Desk_driestWay_42 (Nat.le_of_ble_eq_true rfl) rfl ?_
      exact E_sub (ks := [3, 4, 6, 8, 2, 1, 0]) rfl <| t_Desk_driestWay_44 (by omega) _ _ _ _ _ _ _ _ _ _ hq
    · rw [if_neg c] at hq
      refine E_aln 0 d_Desk_driestWay_10 rfl rfl ?_
      obtain ⟨v1, ev1, hq⟩ := bd hq
      refine E_gR d_Desk_driestWay_11 lk_Desk_24 rfl ev1 ?_
      refine E_il 6 d_Desk_driestWay_14 rfl ?_
      refine E_il 6 d_Desk_driestWay_16 rfl ?_
      refine E_iln 2 d_Desk_driestWay_18 rfl rfl ?_
      refine E_jne (tgt := 27) d_Desk_driestWay_19 (by decide) (fun c => ?_) (fun c => ?_)
      · rw [if_neg c] at hq
        refine E_ic (v := (-1)) d_Desk_driestWay_27 (by decide) ?_
        exact t_Desk_driestWay_28 (by omega) ih hq
      · rw [if_pos c] at hq
        refine E_il 4 d_Desk_driestWay_22 rfl ?_
        refine E_goto (tgt := 28) d_Desk_driestWay_24 (by decide) ?_
        exact t_Desk_driestWay_28 (by omega) ih hq
def f_Desk_driestWay (a0 : Nat) (a1 : Nat) (x2 : Int32) (x3 : Int32) (x4 : Int32) (x5 : Int32) (h : PH) : Option (Int32 × PH) :=
  f_Desk_driestWay_3 FU a0 a1 x2 x3 x4 x5 0 h
theorem t_Desk_driestWay {d : Nat} (hd : 3 ≤ d) {a0 : Nat} {a1 : Nat} {x2 : Int32} {x3 : Int32} {x4 : Int32} {x5 : Int32} {h : PH} {r : Int32 × PH} (hq : f_Desk_driestWay a0 a1 x2 x3 x4 x5 h = some r) : E d 0 0 m_Desk_driestWay 0 [(0, .ref a0), (1, .ref a1), (2, .int x2), (3, .int x3), (4, .int x4), (5, .int x5)] [] h (PI r) := by
  unfold f_Desk_driestWay at hq
  obtain ⟨d, rfl⟩ : ∃ e, d = e + 1 := ⟨d - 1, by omega⟩
  refine E_ic (v := 0) d_Desk_driestWay_0 (by decide) ?_
  refine E_is (ls' := [(6, .int 0), (0, .ref a0), (1, .ref a1), (2, .int x2), (3, .int x3), (4, .int x4), (5, .int x5)]) d_Desk_driestWay_1 (Nat.le_of_ble_eq_true rfl) rfl ?_
  exact E_sub (ks := [1, 2, 3, 4, 5, 6, 0]) rfl <| t_Desk_driestWay_3 (by omega) _ _ _ _ _ _ _ _ _ _ hq
def f_Tc_driest (a0 : Nat) (x1 : Int32) (x2 : Int32) (x3 : Int32) (x4 : Int32) (h : PH) : Option (Int32 × PH) :=
  (f_Tc_within x1 9 h).bind fun p1 =>
  if p1.1 = 0 then
    some ((-1), p1.2)
  else
    (f_Tc_within x2 9 p1.2).bind fun p2 =>
    if p2.1 = 0 then
      some ((-1), p2.2)
    else
      (f_Tc_within x3 99 p2.2).bind fun p3 =>
      if p3.1 = 0 then
        some ((-1), p3.2)
      else
        (f_Tc_within x4 1 p3.2).bind fun p4 =>
        if p4.1 = 0 then
          some ((-1), p4.2)
        else
          (ldR p4.2 8 a0 4).bind fun v5 =>
          (ldR p4.2 8 a0 0).bind fun v6 =>
          (ldR p4.2 1 v6 5).bind fun v7 =>
          (isO p4.2 0 v5).bind fun _ =>
          (f_Desk_driestWay v5 v7 x1 x2 x3 x4 p4.2).bind fun p8 =>
          some (p8.1, p8.2)
theorem t_Tc_driest {d : Nat} (hd : 4 ≤ d) {a0 : Nat} {x1 : Int32} {x2 : Int32} {x3 : Int32} {x4 : Int32} {h : PH} {r : Int32 × PH} (hq : f_Tc_driest a0 x1 x2 x3 x4 h = some r) : E d 0 0 m_Tc_driest 0 [(0, .ref a0), (1, .int x1), (2, .int x2), (3, .int x3), (4, .int x4)] [] h (PI r) := by
  unfold f_Tc_driest at hq
  obtain ⟨d, rfl⟩ : ∃ e, d = e + 1 := ⟨d - 1, by omega⟩
  refine E_iln 1 d_Tc_driest_0 rfl rfl ?_
  refine E_bi (v := 9) d_Tc_driest_1 (by decide) ?_
  obtain ⟨p1, ep1, hq⟩ := bd hq
  refine E_cS2I d_Tc_driest_3 ck_Tc_57 (Nat.le_of_ble_eq_true rfl) (Nat.le_of_ble_eq_true rfl) (t_Tc_within (by omega) ep1) ?_
  refine E_zeq (tgt := 36) d_Tc_driest_6 (by decide) (fun c => ?_) (fun c => ?_)
  · rw [if_pos c] at hq
    refine E_ic (v := (-1)) d_Tc_driest_36 (by decide) ?_
    exact E_rI d_Tc_driest_37 rfl hq
  · rw [if_neg c] at hq
    refine E_iln 2 d_Tc_driest_9 rfl rfl ?_
    refine E_bi (v := 9) d_Tc_driest_10 (by decide) ?_
    obtain ⟨p2, ep2, hq⟩ := bd hq
    refine E_cS2I d_Tc_driest_12 ck_Tc_57 (Nat.le_of_ble_eq_true rfl) (Nat.le_of_ble_eq_true rfl) (t_Tc_within (by omega) ep2) ?_
    refine E_zeq (tgt := 36) d_Tc_driest_15 (by decide) (fun c => ?_) (fun c => ?_)
    · rw [if_pos c] at hq
      refine E_ic (v := (-1)) d_Tc_driest_36 (by decide) ?_
      exact E_rI d_Tc_driest_37 rfl hq
    · rw [if_neg c] at hq
      refine E_iln 3 d_Tc_driest_18 rfl rfl ?_
      refine E_bi (v := 99) d_Tc_driest_19 (by decide) ?_
      obtain ⟨p3, ep3, hq⟩ := bd hq
      refine E_cS2I d_Tc_driest_21 ck_Tc_57 (Nat.le_of_ble_eq_true rfl) (Nat.le_of_ble_eq_true rfl) (t_Tc_within (by omega) ep3) ?_
      refine E_zeq (tgt := 36) d_Tc_driest_24 (by decide) (fun c => ?_) (fun c => ?_)
      · rw [if_pos c] at hq
        refine E_ic (v := (-1)) d_Tc_driest_36 (by decide) ?_
        exact E_rI d_Tc_driest_37 rfl hq
      · rw [if_neg c] at hq
        refine E_il 4 d_Tc_driest_27 rfl ?_
        refine E_ic (v := 1) d_Tc_driest_29 (by decide) ?_
        obtain ⟨p4, ep4, hq⟩ := bd hq
        refine E_cS2I d_Tc_driest_30 ck_Tc_57 (Nat.le_of_ble_eq_true rfl) (Nat.le_of_ble_eq_true rfl) (t_Tc_within (by omega) ep4) ?_
        refine E_zne (tgt := 38) d_Tc_driest_33 (by decide) (fun c => ?_) (fun c => ?_)
        · rw [if_neg c] at hq
          refine E_aln 0 d_Tc_driest_38 rfl rfl ?_
          obtain ⟨v5, ev5, hq⟩ := bd hq
          refine E_gR d_Tc_driest_39 lk_Tc_40 rfl ev5 ?_
          refine E_aln 0 d_Tc_driest_42 rfl rfl ?_
          obtain ⟨v6, ev6, hq⟩ := bd hq
          refine E_gR d_Tc_driest_43 lk_Tc_10 rfl ev6 ?_
          obtain ⟨v7, ev7, hq⟩ := bd hq
          refine E_gR d_Tc_driest_46 lk_Tc_155 rfl ev7 ?_
          refine E_iln 1 d_Tc_driest_49 rfl rfl ?_
          refine E_iln 2 d_Tc_driest_50 rfl rfl ?_
          refine E_iln 3 d_Tc_driest_51 rfl rfl ?_
          refine E_il 4 d_Tc_driest_52 rfl ?_
          obtain ⟨q9, eq9, hq⟩ := bd hq
          obtain ⟨p8, ep8, hq⟩ := bd hq
          refine E_cV5I d_Tc_driest_54 ck_Tc_285 rfl rfl eq9 (Nat.le_of_ble_eq_true rfl) (Nat.le_of_ble_eq_true rfl) (t_Desk_driestWay (by omega) ep8) ?_
          exact E_rI d_Tc_driest_57 rfl hq
        · rw [if_pos c] at hq
          refine E_ic (v := (-1)) d_Tc_driest_36 (by decide) ?_
          exact E_rI d_Tc_driest_37 rfl hq
def f_Tc_count (a0 : Nat) (x1 : Int32) (x2 : Int32) (x3 : Int32) (h : PH) : Option (Int32 × PH) :=
  (f_Tc_within x1 5 h).bind fun p1 =>
  if p1.1 = 0 then
    rtZ 0 p1.2
  else
    (f_Tc_within x2 3 p1.2).bind fun p2 =>
    if p2.1 = 0 then
      rtZ 0 p2.2
    else
      (f_Tc_within x3 999 p2.2).bind fun p3 =>
      if p3.1 = 0 then
        rtZ 0 p3.2
      else
        (ldR p3.2 8 a0 0).bind fun v4 =>
        (ldR p3.2 1 v4 6).bind fun v5 =>
        (ldR p3.2 7 v5 6).bind fun v6 =>
        (wrA p3.2 v6 ((x1 * 4) + x2) x3).bind fun h7 =>
        rtZ 1 h7
theorem t_Tc_count {d : Nat} (hd : 1 ≤ d) {a0 : Nat} {x1 : Int32} {x2 : Int32} {x3 : Int32} {h : PH} {r : Int32 × PH} (hq : f_Tc_count a0 x1 x2 x3 h = some r) : E d 0 0 m_Tc_count 0 [(0, .ref a0), (1, .int x1), (2, .int x2), (3, .int x3)] [] h (PI r) := by
  unfold f_Tc_count at hq
  obtain ⟨d, rfl⟩ : ∃ e, d = e + 1 := ⟨d - 1, by omega⟩
  refine E_iln 1 d_Tc_count_0 rfl rfl ?_
  refine E_ic (v := 5) d_Tc_count_1 (by decide) ?_
  obtain ⟨p1, ep1, hq⟩ := bd hq
  refine E_cS2I d_Tc_count_2 ck_Tc_57 (Nat.le_of_ble_eq_true rfl) (Nat.le_of_ble_eq_true rfl) (t_Tc_within (by omega) ep1) ?_
  refine E_zeq (tgt := 26) d_Tc_count_5 (by decide) (fun c => ?_) (fun c => ?_)
  · rw [if_pos c] at hq
    refine E_ic (v := 0) d_Tc_count_26 (by decide) ?_
    exact E_rZ d_Tc_count_27 rfl hq
  · rw [if_neg c] at hq
    refine E_iln 2 d_Tc_count_8 rfl rfl ?_
    refine E_ic (v := 3) d_Tc_count_9 (by decide) ?_
    obtain ⟨p2, ep2, hq⟩ := bd hq
    refine E_cS2I d_Tc_count_10 ck_Tc_57 (Nat.le_of_ble_eq_true rfl) (Nat.le_of_ble_eq_true rfl) (t_Tc_within (by omega) ep2) ?_
    refine E_zeq (tgt := 26) d_Tc_count_13 (by decide) (fun c => ?_) (fun c => ?_)
    · rw [if_pos c] at hq
      refine E_ic (v := 0) d_Tc_count_26 (by decide) ?_
      exact E_rZ d_Tc_count_27 rfl hq
    · rw [if_neg c] at hq
      refine E_iln 3 d_Tc_count_16 rfl rfl ?_
      refine E_si (v := 999) d_Tc_count_17 (by decide) ?_
      obtain ⟨p3, ep3, hq⟩ := bd hq
      refine E_cS2I d_Tc_count_20 ck_Tc_57 (Nat.le_of_ble_eq_true rfl) (Nat.le_of_ble_eq_true rfl) (t_Tc_within (by omega) ep3) ?_
      refine E_zne (tgt := 28) d_Tc_count_23 (by decide) (fun c => ?_) (fun c => ?_)
      · rw [if_neg c] at hq
        refine E_aln 0 d_Tc_count_28 rfl rfl ?_
        obtain ⟨v4, ev4, hq⟩ := bd hq
        refine E_gR d_Tc_count_29 lk_Tc_10 rfl ev4 ?_
        obtain ⟨v5, ev5, hq⟩ := bd hq
        refine E_gR d_Tc_count_32 lk_Tc_230 rfl ev5 ?_
        obtain ⟨v6, ev6, hq⟩ := bd hq
        refine E_gR d_Tc_count_35 lk_Tc_289 rfl ev6 ?_
        refine E_iln 1 d_Tc_count_38 rfl rfl ?_
        refine E_ic (v := 4) d_Tc_count_39 (by decide) ?_
        refine E_imul d_Tc_count_40 ?_
        refine E_iln 2 d_Tc_count_41 rfl rfl ?_
        refine E_iadd d_Tc_count_42 ?_
        refine E_iln 3 d_Tc_count_43 rfl rfl ?_
        obtain ⟨h7, eh7, hq⟩ := bd hq
        refine E_wa d_Tc_count_44 eh7 ?_
        refine E_ic (v := 1) d_Tc_count_45 (by decide) ?_
        exact E_rZ d_Tc_count_46 rfl hq
      · rw [if_pos c] at hq
        refine E_ic (v := 0) d_Tc_count_26 (by decide) ?_
        exact E_rZ d_Tc_count_27 rfl hq
def f_Desk_chance_15 (h : PH) : Option (Int64 × PH) :=
  some (0, h)
theorem t_Desk_chance_15 {d : Nat} (hd : 1 ≤ d) {h : PH} {r : Int64 × PH} (hq : f_Desk_chance_15 h = some r) : E d 0 0 m_Desk_chance 15 [] [] h (PL r) := by
  unfold f_Desk_chance_15 at hq
  obtain ⟨d, rfl⟩ : ∃ e, d = e + 1 := ⟨d - 1, by omega⟩
  refine E_lc (v := 0) d_Desk_chance_15 (by decide) ?_
  exact E_rL d_Desk_chance_16 rfl hq
def f_Desk_chance_59 : Nat → Nat → Int32 → Int32 → Int64 → Int64 → Int32 → PH → Option (Int64 × PH)
  | 0, _, _, _, _, _, _, _ => none
  | n + 1, a1, x2, x3, l4, l6, x8, h =>
    if 4 ≤ x8 then
      some (l6, h)
    else
      if ((jshr x3 x8) &&& 1) = 1 then
        if (lg_cmp l4 0) ≤ 0 then
          f_Desk_chance_59 n a1 x2 x3 l4 l6 (x8 + 1) h
        else
          (rdA h a1 ((x2 * 4) + x8)).bind fun v1 =>
          (dvL (l6 * ((v1 + 1)).toInt64) l4).bind fun v2 =>
          f_Desk_chance_59 n a1 x2 x3 l4 v2 (x8 + 1) h
      else
        f_Desk_chance_59 n a1 x2 x3 l4 l6 (x8 + 1) h
theorem t_Desk_chance_59 {d : Nat} (hd : 1 ≤ d) : ∀ (n : Nat) (a1 : Nat) (x2 : Int32) (x3 : Int32) (l4 : Int64) (l6 : Int64) (x8 : Int32) (h : PH) (r : Int64 × PH), f_Desk_chance_59 n a1 x2 x3 l4 l6 x8 h = some r → E d 0 0 m_Desk_chance 59 [(1, .ref a1), (2, .int x2), (3, .int x3), (4, .long l4), (6, .long l6), (8, .int x8)] [] h (PL r) := by
  intro n
  induction n with
  | zero => intro a1 x2 x3 l4 l6 x8 h r hq; rw [f_Desk_chance_59] at hq; cases hq
  | succ n ih =>
    intro a1 x2 x3 l4 l6 x8 h r hq
    rw [f_Desk_chance_59] at hq
    obtain ⟨d, rfl⟩ : ∃ e, d = e + 1 := ⟨d - 1, by omega⟩
    refine E_il 5 d_Desk_chance_59 rfl ?_
    refine E_ic (v := 4) d_Desk_chance_61 (by decide) ?_
    refine E_jge (tgt := 107) d_Desk_chance_62 (by decide) (fun c => ?_) (fun c => ?_)
    · rw [if_pos c] at hq
      refine E_ll 4 d_Desk_chance_107 rfl ?_
      exact E_rL d_Desk_chance_109 rfl hq
    · rw [if_neg c] at hq
      refine E_iln 2 d_Desk_chance_65 rfl rfl ?_
      refine E_il 5 d_Desk_chance_66 rfl ?_
      refine E_ishr d_Desk_chance_68 ?_
      refine E_ic (v := 1) d_Desk_chance_69 (by decide) ?_
      refine E_iand d_Desk_chance_70 ?_
      refine E_ic (v := 1) d_Desk_chance_71 (by decide) ?_
      refine E_jne (tgt := 101) d_Desk_chance_72 (by decide) (fun c => ?_) (fun c => ?_)
      · rw [if_neg c] at hq
        refine E_inc (v := 1) (ls' := [(8, .int (x8 + 1)), (1, .ref a1), (2, .int x2), (3, .int x3), (4, .long l4), (6, .long l6)]) 5 d_Desk_chance_101 rfl (Nat.le_of_ble_eq_true rfl) (by decide) rfl ?_
        refine E_goto (tgt := 59) d_Desk_chance_104 (by decide) ?_
        exact E_sub (ks := [1, 2, 3, 4, 5, 0]) rfl <| ih _ _ _ _ _ _ _ _ hq
      · rw [if_pos c] at hq
        refine E_ll 3 d_Desk_chance_75 rfl ?_
        refine E_lc (v := 0) d_Desk_chance_77 (by decide) ?_
        refine E_lcmp d_Desk_chance_78 ?_
        refine E_zle (tgt := 101) d_Desk_chance_79 (by decide) (fun c => ?_) (fun c => ?_)
        · rw [if_pos c] at hq
          refine E_inc (v := 1) (ls' := [(8, .int (x8 + 1)), (1, .ref a1), (2, .int x2), (3, .int x3), (4, .long l4), (6, .long l6)]) 5 d_Desk_chance_101 rfl (Nat.le_of_ble_eq_true rfl) (by decide) rfl ?_
          refine E_goto (tgt := 59) d_Desk_chance_104 (by decide) ?_
          exact E_sub (ks := [1, 2, 3, 4, 5, 0]) rfl <| ih _ _ _ _ _ _ _ _ hq
        · rw [if_neg c] at hq
          refine E_ll 4 d_Desk_chance_82 rfl ?_
          refine E_aln 0 d_Desk_chance_84 rfl rfl ?_
          refine E_iln 1 d_Desk_chance_85 rfl rfl ?_
          refine E_ic (v := 4) d_Desk_chance_86 (by decide) ?_
          refine E_imul d_Desk_chance_87 ?_
          refine E_il 5 d_Desk_chance_88 rfl ?_
          refine E_iadd d_Desk_chance_90 ?_
          obtain ⟨v1, ev1, hq⟩ := bd hq
          refine E_ra d_Desk_chance_91 ev1 ?_
          refine E_ic (v := 1) d_Desk_chance_92 (by decide) ?_
          refine E_iadd d_Desk_chance_93 ?_
          refine E_i2l d_Desk_chance_94 ?_
          refine E_lmul d_Desk_chance_95 ?_
          refine E_ll 3 d_Desk_chance_96 rfl ?_
          obtain ⟨v2, ev2, hq⟩ := bd hq
          refine E_dl d_Desk_chance_98 ev2 ?_
          refine E_lstor (ls' := [(6, .long v2), (1, .ref a1), (2, .int x2), (3, .int x3), (4, .long l4), (8, .int x8)]) d_Desk_chance_99 (Nat.le_of_ble_eq_true rfl) rfl ?_
          refine E_inc (v := 1) (ls' := [(8, .int (x8 + 1)), (6, .long v2), (1, .ref a1), (2, .int x2), (3, .int x3), (4, .long l4)]) 5 d_Desk_chance_101 rfl (Nat.le_of_ble_eq_true rfl) (by decide) rfl ?_
          refine E_goto (tgt := 59) d_Desk_chance_104 (by decide) ?_
          exact E_sub (ks := [2, 3, 4, 5, 1, 0]) rfl <| ih _ _ _ _ _ _ _ _ hq
def f_Desk_chance_25 : Nat → Nat → Int32 → Int32 → Int64 → Int32 → PH → Option (Int64 × PH)
  | 0, _, _, _, _, _, _ => none
  | n + 1, a1, x2, x3, l4, x6, h =>
    if 4 ≤ x6 then
      f_Desk_chance_59 FU a1 x2 x3 l4 166666 0 h
    else
      (rdA h a1 ((x2 * 4) + x6)).bind fun v1 =>
      f_Desk_chance_25 n a1 x2 x3 (l4 + (v1).toInt64) (x6 + 1) h
theorem t_Desk_chance_25 {d : Nat} (hd : 1 ≤ d) : ∀ (n : Nat) (a1 : Nat) (x2 : Int32) (x3 : Int32) (l4 : Int64) (x6 : Int32) (h : PH) (r : Int64 × PH), f_Desk_chance_25 n a1 x2 x3 l4 x6 h = some r → E d 0 0 m_Desk_chance 25 [(1, .ref a1), (2, .int x2), (3, .int x3), (4, .long l4), (6, .int x6)] [] h (PL r) := by
  intro n
  induction n with
  | zero => intro a1 x2 x3 l4 x6 h r hq; rw [f_Desk_chance_25] at hq; cases hq
  | succ n ih =>
    intro a1 x2 x3 l4 x6 h r hq
    rw [f_Desk_chance_25] at hq
    obtain ⟨d, rfl⟩ : ∃ e, d = e + 1 := ⟨d - 1, by omega⟩
    refine E_il 4 d_Desk_chance_25 rfl ?_
    refine E_ic (v := 4) d_Desk_chance_27 (by decide) ?_
    refine E_jge (tgt := 51) d_Desk_chance_28 (by decide) (fun c => ?_) (fun c => ?_)
    · rw [if_pos c] at hq
      refine E_ldl d_Desk_chance_51 kl_Desk_100 ?_
      refine E_lstor (ls' := [(6, .long 166666), (1, .ref a1), (2, .int x2), (3, .int x3), (4, .long l4)]) d_Desk_chance_54 (Nat.le_of_ble_eq_true rfl) rfl ?_
      refine E_ic (v := 0) d_Desk_chance_56 (by decide) ?_
      refine E_is (ls' := [(8, .int 0), (6, .long 166666), (1, .ref a1), (2, .int x2), (3, .int x3), (4, .long l4)]) d_Desk_chance_57 (Nat.le_of_ble_eq_true rfl) rfl ?_
      exact E_sub (ks := [2, 3, 4, 5, 1, 0]) rfl <| t_Desk_chance_59 (by omega) _ _ _ _ _ _ _ _ _ hq
    · rw [if_neg c] at hq
      refine E_ll 3 d_Desk_chance_31 rfl ?_
      refine E_aln 0 d_Desk_chance_33 rfl rfl ?_
      refine E_iln 1 d_Desk_chance_34 rfl rfl ?_
      refine E_ic (v := 4) d_Desk_chance_35 (by decide) ?_
      refine E_imul d_Desk_chance_36 ?_
      refine E_il 4 d_Desk_chance_37 rfl ?_
      refine E_iadd d_Desk_chance_39 ?_
      obtain ⟨v1, ev1, hq⟩ := bd hq
      refine E_ra d_Desk_chance_40 ev1 ?_
      refine E_i2l d_Desk_chance_41 ?_
      refine E_ladd d_Desk_chance_42 ?_
      refine E_lstor (ls' := [(4, .long (l4 + (v1).toInt64)), (1, .ref a1), (2, .int x2), (3, .int x3), (6, .int x6)]) d_Desk_chance_43 (Nat.le_of_ble_eq_true rfl) rfl ?_
      refine E_inc (v := 1) (ls' := [(6, .int (x6 + 1)), (4, .long (l4 + (v1).toInt64)), (1, .ref a1), (2, .int x2), (3, .int x3)]) 4 d_Desk_chance_45 rfl (Nat.le_of_ble_eq_true rfl) (by decide) rfl ?_
      refine E_goto (tgt := 25) d_Desk_chance_48 (by decide) ?_
      exact E_sub (ks := [2, 3, 4, 1, 0]) rfl <| ih _ _ _ _ _ _ _ hq
def f_Desk_chance (a0 : Nat) (a1 : Nat) (x2 : Int32) (x3 : Int32) (h : PH) : Option (Int64 × PH) :=
  (f_Tc_within x2 5 h).bind fun p1 =>
  if p1.1 = 0 then
    f_Desk_chance_15  p1.2
  else
    (lnA p1.2 a1).bind fun v2 =>
    if 24 ≤ v2 then
      f_Desk_chance_25 FU a1 x2 x3 4 0 p1.2
    else
      f_Desk_chance_15  p1.2
theorem t_Desk_chance {d : Nat} (hd : 1 ≤ d) {a0 : Nat} {a1 : Nat} {x2 : Int32} {x3 : Int32} {h : PH} {r : Int64 × PH} (hq : f_Desk_chance a0 a1 x2 x3 h = some r) : E d 0 0 m_Desk_chance 0 [(0, .ref a0), (1, .ref a1), (2, .int x2), (3, .int x3)] [] h (PL r) := by
  unfold f_Desk_chance at hq
  obtain ⟨d, rfl⟩ : ∃ e, d = e + 1 := ⟨d - 1, by omega⟩
  refine E_iln 2 d_Desk_chance_0 rfl rfl ?_
  refine E_ic (v := 5) d_Desk_chance_1 (by decide) ?_
  obtain ⟨p1, ep1, hq⟩ := bd hq
  refine E_cS2I d_Desk_chance_2 ck_Desk_73 (Nat.le_of_ble_eq_true rfl) (Nat.le_of_ble_eq_true rfl) (t_Tc_within (by omega) ep1) ?_
  refine E_zeq (tgt := 15) d_Desk_chance_5 (by decide) (fun c => ?_) (fun c => ?_)
  · rw [if_pos c] at hq
    exact E_sub (ks := []) rfl <| t_Desk_chance_15 (by omega) hq
  · rw [if_neg c] at hq
    refine E_aln 1 d_Desk_chance_8 rfl rfl ?_
    obtain ⟨v2, ev2, hq⟩ := bd hq
    refine E_ln d_Desk_chance_9 ev2 ?_
    refine E_bi (v := 24) d_Desk_chance_10 (by decide) ?_
    refine E_jge (tgt := 17) d_Desk_chance_12 (by decide) (fun c => ?_) (fun c => ?_)
    · rw [if_pos c] at hq
      refine E_ldl d_Desk_chance_17 kl_Desk_98 ?_
      refine E_lstor (ls' := [(4, .long 4), (0, .ref a0), (1, .ref a1), (2, .int x2), (3, .int x3)]) d_Desk_chance_20 (Nat.le_of_ble_eq_true rfl) rfl ?_
      refine E_ic (v := 0) d_Desk_chance_22 (by decide) ?_
      refine E_is (ls' := [(6, .int 0), (4, .long 4), (0, .ref a0), (1, .ref a1), (2, .int x2), (3, .int x3)]) d_Desk_chance_23 (Nat.le_of_ble_eq_true rfl) rfl ?_
      exact E_sub (ks := [3, 4, 5, 1, 0]) rfl <| t_Desk_chance_25 (by omega) _ _ _ _ _ _ _ _ hq
    · rw [if_neg c] at hq
      exact E_sub (ks := []) rfl <| t_Desk_chance_15 (by omega) hq
def f_Desk_mostLikely_5 : Nat → Nat → Nat → Int32 → Int32 → Int32 → PH → Option (Int32 × PH)
  | 0, _, _, _, _, _, _ => none
  | n + 1, a0, a1, x2, x3, x4, h =>
    if 6 ≤ x4 then
      some (x3, h)
    else
      (isO h 0 a0).bind fun _ =>
      (f_Desk_chance a0 a1 x4 x2 h).bind fun p1 =>
      (isO p1.2 0 a0).bind fun _ =>
      (f_Desk_chance a0 a1 x3 x2 p1.2).bind fun p3 =>
      if (lg_cmp p1.1 p3.1) ≤ 0 then
        f_Desk_mostLikely_5 n a0 a1 x2 x3 (x4 + 1) p3.2
      else
        f_Desk_mostLikely_5 n a0 a1 x2 x4 (x4 + 1) p3.2
theorem t_Desk_mostLikely_5 {d : Nat} (hd : 2 ≤ d) : ∀ (n : Nat) (a0 : Nat) (a1 : Nat) (x2 : Int32) (x3 : Int32) (x4 : Int32) (h : PH) (r : Int32 × PH), f_Desk_mostLikely_5 n a0 a1 x2 x3 x4 h = some r → E d 0 0 m_Desk_mostLikely 5 [(0, .ref a0), (1, .ref a1), (2, .int x2), (3, .int x3), (4, .int x4)] [] h (PI r) := by
  intro n
  induction n with
  | zero => intro a0 a1 x2 x3 x4 h r hq; rw [f_Desk_mostLikely_5] at hq; cases hq
  | succ n ih =>
    intro a0 a1 x2 x3 x4 h r hq
    rw [f_Desk_mostLikely_5] at hq
    obtain ⟨d, rfl⟩ : ∃ e, d = e + 1 := ⟨d - 1, by omega⟩
    refine E_il 4 d_Desk_mostLikely_5 rfl ?_
    refine E_bi (v := 6) d_Desk_mostLikely_7 (by decide) ?_
    refine E_jge (tgt := 40) d_Desk_mostLikely_9 (by decide) (fun c => ?_) (fun c => ?_)
    · rw [if_pos c] at hq
      refine E_iln 3 d_Desk_mostLikely_40 rfl rfl ?_
      exact E_rI d_Desk_mostLikely_41 rfl hq
    · rw [if_neg c] at hq
      refine E_aln 0 d_Desk_mostLikely_12 rfl rfl ?_
      refine E_aln 1 d_Desk_mostLikely_13 rfl rfl ?_
      refine E_il 4 d_Desk_mostLikely_14 rfl ?_
      refine E_iln 2 d_Desk_mostLikely_16 rfl rfl ?_
      obtain ⟨q2, eq2, hq⟩ := bd hq
      obtain ⟨p1, ep1, hq⟩ := bd hq
      refine E_cV3L d_Desk_mostLikely_17 ck_Desk_102 rfl rfl eq2 (Nat.le_of_ble_eq_true rfl) (Nat.le_of_ble_eq_true rfl) (t_Desk_chance (by omega) ep1) ?_
      refine E_aln 0 d_Desk_mostLikely_20 rfl rfl ?_
      refine E_aln 1 d_Desk_mostLikely_21 rfl rfl ?_
      refine E_iln 3 d_Desk_mostLikely_22 rfl rfl ?_
      refine E_iln 2 d_Desk_mostLikely_23 rfl rfl ?_
      obtain ⟨q4, eq4, hq⟩ := bd hq
      obtain ⟨p3, ep3, hq⟩ := bd hq
      refine E_cV3L d_Desk_mostLikely_24 ck_Desk_102 rfl rfl eq4 (Nat.le_of_ble_eq_true rfl) (Nat.le_of_ble_eq_true rfl) (t_Desk_chance (by omega) ep3) ?_
      refine E_lcmp d_Desk_mostLikely_27 ?_
      refine E_zle (tgt := 34) d_Desk_mostLikely_28 (by decide) (fun c => ?_) (fun c => ?_)
      · rw [if_pos c] at hq
        refine E_inc (v := 1) (ls' := [(4, .int (x4 + 1)), (0, .ref a0), (1, .ref a1), (2, .int x2), (3, .int x3)]) 4 d_Desk_mostLikely_34 rfl (Nat.le_of_ble_eq_true rfl) (by decide) rfl ?_
        refine E_goto (tgt := 5) d_Desk_mostLikely_37 (by decide) ?_
        exact E_sub (ks := [1, 2, 3, 4, 0]) rfl <| ih _ _ _ _ _ _ _ hq
      · rw [if_neg c] at hq
        refine E_il 4 d_Desk_mostLikely_31 rfl ?_
        refine E_isn (ls' := [(3, .int x4), (0, .ref a0), (1, .ref a1), (2, .int x2), (4, .int x4)]) d_Desk_mostLikely_33 (Nat.le_of_ble_eq_true rfl) rfl ?_
        refine E_inc (v := 1) (ls' := [(4, .int (x4 + 1)), (3, .int x4), (0, .ref a0), (1, .ref a1), (2, .int x2)]) 4 d_Desk_mostLikely_34 rfl (Nat.le_of_ble_eq_true rfl) (by decide) rfl ?_
        refine E_goto (tgt := 5) d_Desk_mostLikely_37 (by decide) ?_
        exact E_sub (ks := [2, 3, 4, 1, 0]) rfl <| ih _ _ _ _ _ _ _ hq
def f_Desk_mostLikely (a0 : Nat) (a1 : Nat) (x2 : Int32) (h : PH) : Option (Int32 × PH) :=
  f_Desk_mostLikely_5 FU a0 a1 x2 0 1 h
theorem t_Desk_mostLikely {d : Nat} (hd : 2 ≤ d) {a0 : Nat} {a1 : Nat} {x2 : Int32} {h : PH} {r : Int32 × PH} (hq : f_Desk_mostLikely a0 a1 x2 h = some r) : E d 0 0 m_Desk_mostLikely 0 [(0, .ref a0), (1, .ref a1), (2, .int x2)] [] h (PI r) := by
  unfold f_Desk_mostLikely at hq
  obtain ⟨d, rfl⟩ : ∃ e, d = e + 1 := ⟨d - 1, by omega⟩
  refine E_ic (v := 0) d_Desk_mostLikely_0 (by decide) ?_
  refine E_isn (ls' := [(3, .int 0), (0, .ref a0), (1, .ref a1), (2, .int x2)]) d_Desk_mostLikely_1 (Nat.le_of_ble_eq_true rfl) rfl ?_
  refine E_ic (v := 1) d_Desk_mostLikely_2 (by decide) ?_
  refine E_is (ls' := [(4, .int 1), (3, .int 0), (0, .ref a0), (1, .ref a1), (2, .int x2)]) d_Desk_mostLikely_3 (Nat.le_of_ble_eq_true rfl) rfl ?_
  exact E_sub (ks := [2, 3, 4, 1, 0]) rfl <| t_Desk_mostLikely_5 (by omega) _ _ _ _ _ _ _ _ hq
def f_Desk_ofMillion_6 : Nat → Nat → Nat → Int32 → Int32 → Int64 → Int32 → PH → Option (Int32 × PH)
  | 0, _, _, _, _, _, _, _ => none
  | n + 1, a0, a1, x2, x3, l4, x6, h =>
    if 6 ≤ x6 then
      if (lg_cmp l4 0) = 0 then
        some (0, h)
      else
        (isO h 0 a0).bind fun _ =>
        (f_Desk_chance a0 a1 x2 x3 h).bind fun p1 =>
        (dvL (p1.1 * 1000000) l4).bind fun v3 =>
        some ((v3).toInt32, p1.2)
    else
      (isO h 0 a0).bind fun _ =>
      (f_Desk_chance a0 a1 x6 x3 h).bind fun p4 =>
      f_Desk_ofMillion_6 n a0 a1 x2 x3 (l4 + p4.1) (x6 + 1) p4.2
theorem t_Desk_ofMillion_6 {d : Nat} (hd : 2 ≤ d) : ∀ (n : Nat) (a0 : Nat) (a1 : Nat) (x2 : Int32) (x3 : Int32) (l4 : Int64) (x6 : Int32) (h : PH) (r : Int32 × PH), f_Desk_ofMillion_6 n a0 a1 x2 x3 l4 x6 h = some r → E d 0 0 m_Desk_ofMillion 6 [(0, .ref a0), (1, .ref a1), (2, .int x2), (3, .int x3), (4, .long l4), (6, .int x6)] [] h (PI r) := by
  intro n
  induction n with
  | zero => intro a0 a1 x2 x3 l4 x6 h r hq; rw [f_Desk_ofMillion_6] at hq; cases hq
  | succ n ih =>
    intro a0 a1 x2 x3 l4 x6 h r hq
    rw [f_Desk_ofMillion_6] at hq
    obtain ⟨d, rfl⟩ : ∃ e, d = e + 1 := ⟨d - 1, by omega⟩
    refine E_il 5 d_Desk_ofMillion_6 rfl ?_
    refine E_bi (v := 6) d_Desk_ofMillion_8 (by decide) ?_
    refine E_jge (tgt := 32) d_Desk_ofMillion_10 (by decide) (fun c => ?_) (fun c => ?_)
    · rw [if_pos c] at hq
      refine E_ll 4 d_Desk_ofMillion_32 rfl ?_
      refine E_lc (v := 0) d_Desk_ofMillion_34 (by decide) ?_
      refine E_lcmp d_Desk_ofMillion_35 ?_
      refine E_zne (tgt := 43) d_Desk_ofMillion_36 (by decide) (fun c => ?_) (fun c => ?_)
      · rw [if_neg c] at hq
        refine E_aln 0 d_Desk_ofMillion_43 rfl rfl ?_
        refine E_aln 1 d_Desk_ofMillion_44 rfl rfl ?_
        refine E_iln 2 d_Desk_ofMillion_45 rfl rfl ?_
        refine E_iln 3 d_Desk_ofMillion_46 rfl rfl ?_
        obtain ⟨q2, eq2, hq⟩ := bd hq
        obtain ⟨p1, ep1, hq⟩ := bd hq
        refine E_cV3L d_Desk_ofMillion_47 ck_Desk_102 rfl rfl eq2 (Nat.le_of_ble_eq_true rfl) (Nat.le_of_ble_eq_true rfl) (t_Desk_chance (by omega) ep1) ?_
        refine E_ldl d_Desk_ofMillion_50 kl_Desk_106 ?_
        refine E_lmul d_Desk_ofMillion_53 ?_
        refine E_ll 4 d_Desk_ofMillion_54 rfl ?_
        obtain ⟨v3, ev3, hq⟩ := bd hq
        refine E_dl d_Desk_ofMillion_56 ev3 ?_
        refine E_l2i d_Desk_ofMillion_57 ?_
        exact E_rI d_Desk_ofMillion_58 rfl hq
      · rw [if_pos c] at hq
        refine E_ic (v := 0) d_Desk_ofMillion_39 (by decide) ?_
        refine E_goto (tgt := 58) d_Desk_ofMillion_40 (by decide) ?_
        exact E_rI d_Desk_ofMillion_58 rfl hq
    · rw [if_neg c] at hq
      refine E_ll 4 d_Desk_ofMillion_13 rfl ?_
      refine E_aln 0 d_Desk_ofMillion_15 rfl rfl ?_
      refine E_aln 1 d_Desk_ofMillion_16 rfl rfl ?_
      refine E_il 5 d_Desk_ofMillion_17 rfl ?_
      refine E_iln 3 d_Desk_ofMillion_19 rfl rfl ?_
      obtain ⟨q5, eq5, hq⟩ := bd hq
      obtain ⟨p4, ep4, hq⟩ := bd hq
      refine E_cV3L d_Desk_ofMillion_20 ck_Desk_102 rfl rfl eq5 (Nat.le_of_ble_eq_true rfl) (Nat.le_of_ble_eq_true rfl) (t_Desk_chance (by omega) ep4) ?_
      refine E_ladd d_Desk_ofMillion_23 ?_
      refine E_lstor (ls' := [(4, .long (l4 + p4.1)), (0, .ref a0), (1, .ref a1), (2, .int x2), (3, .int x3), (6, .int x6)]) d_Desk_ofMillion_24 (Nat.le_of_ble_eq_true rfl) rfl ?_
      refine E_inc (v := 1) (ls' := [(6, .int (x6 + 1)), (4, .long (l4 + p4.1)), (0, .ref a0), (1, .ref a1), (2, .int x2), (3, .int x3)]) 5 d_Desk_ofMillion_26 rfl (Nat.le_of_ble_eq_true rfl) (by decide) rfl ?_
      refine E_goto (tgt := 6) d_Desk_ofMillion_29 (by decide) ?_
      exact E_sub (ks := [2, 3, 4, 5, 1, 0]) rfl <| ih _ _ _ _ _ _ _ _ hq
def f_Desk_ofMillion (a0 : Nat) (a1 : Nat) (x2 : Int32) (x3 : Int32) (h : PH) : Option (Int32 × PH) :=
  f_Desk_ofMillion_6 FU a0 a1 x2 x3 0 0 h
theorem t_Desk_ofMillion {d : Nat} (hd : 2 ≤ d) {a0 : Nat} {a1 : Nat} {x2 : Int32} {x3 : Int32} {h : PH} {r : Int32 × PH} (hq : f_Desk_ofMillion a0 a1 x2 x3 h = some r) : E d 0 0 m_Desk_ofMillion 0 [(0, .ref a0), (1, .ref a1), (2, .int x2), (3, .int x3)] [] h (PI r) := by
  unfold f_Desk_ofMillion at hq
  obtain ⟨d, rfl⟩ : ∃ e, d = e + 1 := ⟨d - 1, by omega⟩
  refine E_lc (v := 0) d_Desk_ofMillion_0 (by decide) ?_
  refine E_lstor (ls' := [(4, .long 0), (0, .ref a0), (1, .ref a1), (2, .int x2), (3, .int x3)]) d_Desk_ofMillion_1 (Nat.le_of_ble_eq_true rfl) rfl ?_
  refine E_ic (v := 0) d_Desk_ofMillion_3 (by decide) ?_
  refine E_is (ls' := [(6, .int 0), (4, .long 0), (0, .ref a0), (1, .ref a1), (2, .int x2), (3, .int x3)]) d_Desk_ofMillion_4 (Nat.le_of_ble_eq_true rfl) rfl ?_
  exact E_sub (ks := [2, 3, 4, 5, 1, 0]) rfl <| t_Desk_ofMillion_6 (by omega) _ _ _ _ _ _ _ _ _ hq
def f_Tc_likely (a0 : Nat) (x1 : Int32) (x2 : Int32) (h : PH) : Option (Int32 × PH) :=
  (f_Tc_within x2 15 h).bind fun p1 =>
  if p1.1 = 0 then
    some ((-1), p1.2)
  else
    if x1 = (-1) then
      (ldR p1.2 8 a0 4).bind fun v9 =>
      (ldR p1.2 8 a0 0).bind fun v10 =>
      (ldR p1.2 1 v10 6).bind fun v11 =>
      (ldR p1.2 7 v11 6).bind fun v12 =>
      (isO p1.2 0 v9).bind fun _ =>
      (f_Desk_mostLikely v9 v12 x2 p1.2).bind fun p13 =>
      some (p13.1, p13.2)
    else
      (f_Tc_within x1 5 p1.2).bind fun p2 =>
      if p2.1 = 0 then
        some ((-1), p2.2)
      else
        (ldR p2.2 8 a0 4).bind fun v3 =>
        (ldR p2.2 8 a0 0).bind fun v4 =>
        (ldR p2.2 1 v4 6).bind fun v5 =>
        (ldR p2.2 7 v5 6).bind fun v6 =>
        (isO p2.2 0 v3).bind fun _ =>
        (f_Desk_ofMillion v3 v6 x1 x2 p2.2).bind fun p7 =>
        some (p7.1, p7.2)
theorem t_Tc_likely {d : Nat} (hd : 3 ≤ d) {a0 : Nat} {x1 : Int32} {x2 : Int32} {h : PH} {r : Int32 × PH} (hq : f_Tc_likely a0 x1 x2 h = some r) : E d 0 0 m_Tc_likely 0 [(0, .ref a0), (1, .int x1), (2, .int x2)] [] h (PI r) := by
  unfold f_Tc_likely at hq
  obtain ⟨d, rfl⟩ : ∃ e, d = e + 1 := ⟨d - 1, by omega⟩
  refine E_iln 2 d_Tc_likely_0 rfl rfl ?_
  refine E_bi (v := 15) d_Tc_likely_1 (by decide) ?_
  obtain ⟨p1, ep1, hq⟩ := bd hq
  refine E_cS2I d_Tc_likely_3 ck_Tc_57 (Nat.le_of_ble_eq_true rfl) (Nat.le_of_ble_eq_true rfl) (t_Tc_within (by omega) ep1) ?_
  refine E_zne (tgt := 11) d_Tc_likely_6 (by decide) (fun c => ?_) (fun c => ?_)
  · rw [if_neg c] at hq
    refine E_iln 1 d_Tc_likely_11 rfl rfl ?_
    refine E_ic (v := (-1)) d_Tc_likely_12 (by decide) ?_
    refine E_jne (tgt := 35) d_Tc_likely_13 (by decide) (fun c => ?_) (fun c => ?_)
    · rw [if_neg c] at hq
      refine E_iln 1 d_Tc_likely_35 rfl rfl ?_
      refine E_ic (v := 5) d_Tc_likely_36 (by decide) ?_
      obtain ⟨p2, ep2, hq⟩ := bd hq
      refine E_cS2I d_Tc_likely_37 ck_Tc_57 (Nat.le_of_ble_eq_true rfl) (Nat.le_of_ble_eq_true rfl) (t_Tc_within (by omega) ep2) ?_
      refine E_zeq (tgt := 65) d_Tc_likely_40 (by decide) (fun c => ?_) (fun c => ?_)
      · rw [if_pos c] at hq
        refine E_ic (v := (-1)) d_Tc_likely_65 (by decide) ?_
        exact E_rI d_Tc_likely_66 rfl hq
      · rw [if_neg c] at hq
        refine E_aln 0 d_Tc_likely_43 rfl rfl ?_
        obtain ⟨v3, ev3, hq⟩ := bd hq
        refine E_gR d_Tc_likely_44 lk_Tc_40 rfl ev3 ?_
        refine E_aln 0 d_Tc_likely_47 rfl rfl ?_
        obtain ⟨v4, ev4, hq⟩ := bd hq
        refine E_gR d_Tc_likely_48 lk_Tc_10 rfl ev4 ?_
        obtain ⟨v5, ev5, hq⟩ := bd hq
        refine E_gR d_Tc_likely_51 lk_Tc_230 rfl ev5 ?_
        obtain ⟨v6, ev6, hq⟩ := bd hq
        refine E_gR d_Tc_likely_54 lk_Tc_289 rfl ev6 ?_
        refine E_iln 1 d_Tc_likely_57 rfl rfl ?_
        refine E_iln 2 d_Tc_likely_58 rfl rfl ?_
        obtain ⟨q8, eq8, hq⟩ := bd hq
        obtain ⟨p7, ep7, hq⟩ := bd hq
        refine E_cV3I d_Tc_likely_59 ck_Tc_296 rfl rfl eq8 (Nat.le_of_ble_eq_true rfl) (Nat.le_of_ble_eq_true rfl) (t_Desk_ofMillion (by omega) ep7) ?_
        refine E_goto (tgt := 66) d_Tc_likely_62 (by decide) ?_
        exact E_rI d_Tc_likely_66 rfl hq
    · rw [if_pos c] at hq
      refine E_aln 0 d_Tc_likely_16 rfl rfl ?_
      obtain ⟨v9, ev9, hq⟩ := bd hq
      refine E_gR d_Tc_likely_17 lk_Tc_40 rfl ev9 ?_
      refine E_aln 0 d_Tc_likely_20 rfl rfl ?_
      obtain ⟨v10, ev10, hq⟩ := bd hq
      refine E_gR d_Tc_likely_21 lk_Tc_10 rfl ev10 ?_
      obtain ⟨v11, ev11, hq⟩ := bd hq
      refine E_gR d_Tc_likely_24 lk_Tc_230 rfl ev11 ?_
      obtain ⟨v12, ev12, hq⟩ := bd hq
      refine E_gR d_Tc_likely_27 lk_Tc_289 rfl ev12 ?_
      refine E_iln 2 d_Tc_likely_30 rfl rfl ?_
      obtain ⟨q14, eq14, hq⟩ := bd hq
      obtain ⟨p13, ep13, hq⟩ := bd hq
      refine E_cV2I d_Tc_likely_31 ck_Tc_292 rfl rfl eq14 (Nat.le_of_ble_eq_true rfl) (Nat.le_of_ble_eq_true rfl) (t_Desk_mostLikely (by omega) ep13) ?_
      exact E_rI d_Tc_likely_34 rfl hq
  · rw [if_pos c] at hq
    refine E_ic (v := (-1)) d_Tc_likely_9 (by decide) ?_
    exact E_rI d_Tc_likely_10 rfl hq
def f_Tc_salt (a0 : Nat) (x1 : Int32) (h : PH) : Option (Int32 × PH) :=
  if x1 = (-1) then
    (ldR h 8 a0 0).bind fun v7 =>
    (ldR h 1 v7 6).bind fun v8 =>
    (ldR h 7 v8 5).bind fun v9 =>
    (isO h 6 v9).bind fun _ =>
    (f_Row_clear v9  h).bind fun p10 =>
    some (p10.1, p10.2)
  else
    (f_Tc_within x1 99 h).bind fun p1 =>
    if p1.1 = 0 then
      some ((-1), p1.2)
    else
      (ldR p1.2 8 a0 0).bind fun v2 =>
      (ldR p1.2 1 v2 6).bind fun v3 =>
      (ldR p1.2 7 v3 5).bind fun v4 =>
      (isO p1.2 6 v4).bind fun _ =>
      (f_Row_put v4 x1 0 0 0 p1.2).bind fun p5 =>
      some (p5.1, p5.2)
theorem t_Tc_salt {d : Nat} (hd : 1 ≤ d) {a0 : Nat} {x1 : Int32} {h : PH} {r : Int32 × PH} (hq : f_Tc_salt a0 x1 h = some r) : E d 0 0 m_Tc_salt 0 [(0, .ref a0), (1, .int x1)] [] h (PI r) := by
  unfold f_Tc_salt at hq
  obtain ⟨d, rfl⟩ : ∃ e, d = e + 1 := ⟨d - 1, by omega⟩
  refine E_iln 1 d_Tc_salt_0 rfl rfl ?_
  refine E_ic (v := (-1)) d_Tc_salt_1 (by decide) ?_
  refine E_jne (tgt := 19) d_Tc_salt_2 (by decide) (fun c => ?_) (fun c => ?_)
  · rw [if_neg c] at hq
    refine E_iln 1 d_Tc_salt_19 rfl rfl ?_
    refine E_bi (v := 99) d_Tc_salt_20 (by decide) ?_
    obtain ⟨p1, ep1, hq⟩ := bd hq
    refine E_cS2I d_Tc_salt_22 ck_Tc_57 (Nat.le_of_ble_eq_true rfl) (Nat.le_of_ble_eq_true rfl) (t_Tc_within (by omega) ep1) ?_
    refine E_zeq (tgt := 48) d_Tc_salt_25 (by decide) (fun c => ?_) (fun c => ?_)
    · rw [if_pos c] at hq
      refine E_ic (v := (-1)) d_Tc_salt_48 (by decide) ?_
      exact E_rI d_Tc_salt_49 rfl hq
    · rw [if_neg c] at hq
      refine E_aln 0 d_Tc_salt_28 rfl rfl ?_
      obtain ⟨v2, ev2, hq⟩ := bd hq
      refine E_gR d_Tc_salt_29 lk_Tc_10 rfl ev2 ?_
      obtain ⟨v3, ev3, hq⟩ := bd hq
      refine E_gR d_Tc_salt_32 lk_Tc_230 rfl ev3 ?_
      obtain ⟨v4, ev4, hq⟩ := bd hq
      refine E_gR d_Tc_salt_35 lk_Tc_300 rfl ev4 ?_
      refine E_iln 1 d_Tc_salt_38 rfl rfl ?_
      refine E_ic (v := 0) d_Tc_salt_39 (by decide) ?_
      refine E_ic (v := 0) d_Tc_salt_40 (by decide) ?_
      refine E_ic (v := 0) d_Tc_salt_41 (by decide) ?_
      obtain ⟨q6, eq6, hq⟩ := bd hq
      obtain ⟨p5, ep5, hq⟩ := bd hq
      refine E_cV4I d_Tc_salt_42 ck_Tc_242 rfl rfl eq6 (Nat.le_of_ble_eq_true rfl) (Nat.le_of_ble_eq_true rfl) (t_Row_put (by omega) ep5) ?_
      refine E_goto (tgt := 49) d_Tc_salt_45 (by decide) ?_
      exact E_rI d_Tc_salt_49 rfl hq
  · rw [if_pos c] at hq
    refine E_aln 0 d_Tc_salt_5 rfl rfl ?_
    obtain ⟨v7, ev7, hq⟩ := bd hq
    refine E_gR d_Tc_salt_6 lk_Tc_10 rfl ev7 ?_
    obtain ⟨v8, ev8, hq⟩ := bd hq
    refine E_gR d_Tc_salt_9 lk_Tc_230 rfl ev8 ?_
    obtain ⟨v9, ev9, hq⟩ := bd hq
    refine E_gR d_Tc_salt_12 lk_Tc_300 rfl ev9 ?_
    obtain ⟨q11, eq11, hq⟩ := bd hq
    obtain ⟨p10, ep10, hq⟩ := bd hq
    refine E_cV0I d_Tc_salt_15 ck_Tc_239 rfl rfl eq11 (Nat.le_of_ble_eq_true rfl) (Nat.le_of_ble_eq_true rfl) (t_Row_clear (by omega) ep10) ?_
    exact E_rI d_Tc_salt_18 rfl hq
def f_Desk_mostWon_54 (k35 : Nat → Nat → Int32 → Int32 → PH → Option (Int32 × PH)) : Nat → Nat → Nat → Int32 → Int32 → Int32 → Int32 → PH → Option (Int32 × PH)
  | 0, _, _, _, _, _, _, _ => none
  | n + 1, a0, a1, x2, x3, x4, x5, h =>
    if x2 < x5 then
      k35 a0 a1 x2 (x3 + 1) h
    else
      (ldR h 0 a0 3).bind fun v1 =>
      (lnA h v1).bind fun v2 =>
      if v2 ≤ x5 then
        k35 a0 a1 x2 (x3 + 1) h
      else
        (ldR h 0 a0 2).bind fun v3 =>
        (ldR h 0 a0 2).bind fun v4 =>
        (rdA h v4 x5).bind fun v5 =>
        (ldR h 0 a0 3).bind fun v6 =>
        (rdA h v6 (x5 - 1)).bind fun v7 =>
        (wrA h v3 x5 (jmax v5 (v7 - x4))).bind fun h8 =>
        (ldR h8 0 a0 3).bind fun v9 =>
        (ldR h8 0 a0 3).bind fun v10 =>
        (rdA h8 v10 x5).bind fun v11 =>
        (ldR h8 0 a0 2).bind fun v12 =>
        (rdA h8 v12 x5).bind fun v13 =>
        (wrA h8 v9 x5 (jmax v11 (v13 + x4))).bind fun h14 =>
        f_Desk_mostWon_54 k35 n a0 a1 x2 x3 x4 (x5 + 1) h14
theorem t_Desk_mostWon_54 {d : Nat} (hd : 1 ≤ d) {k35 : Nat → Nat → Int32 → Int32 → PH → Option (Int32 × PH)} (hk35 : ∀ (a0 : Nat) (a1 : Nat) (x2 : Int32) (x3 : Int32) (h : PH) (r : Int32 × PH), k35 a0 a1 x2 x3 h = some r → E d 0 0 m_Desk_mostWon 35 [(0, .ref a0), (1, .ref a1), (2, .int x2), (3, .int x3)] [] h (PI r)) : ∀ (n : Nat) (a0 : Nat) (a1 : Nat) (x2 : Int32) (x3 : Int32) (x4 : Int32) (x5 : Int32) (h : PH) (r : Int32 × PH), f_Desk_mostWon_54 k35 n a0 a1 x2 x3 x4 x5 h = some r → E d 0 0 m_Desk_mostWon 54 [(0, .ref a0), (1, .ref a1), (2, .int x2), (3, .int x3), (4, .int x4), (5, .int x5)] [] h (PI r) := by
  intro n
  induction n with
  | zero => intro a0 a1 x2 x3 x4 x5 h r hq; rw [f_Desk_mostWon_54] at hq; cases hq
  | succ n ih =>
    intro a0 a1 x2 x3 x4 x5 h r hq
    rw [f_Desk_mostWon_54] at hq
    obtain ⟨d, rfl⟩ : ∃ e, d = e + 1 := ⟨d - 1, by omega⟩
    refine E_il 5 d_Desk_mostWon_54 rfl ?_
    refine E_iln 2 d_Desk_mostWon_56 rfl rfl ?_
    refine E_jgt (tgt := 132) d_Desk_mostWon_57 (by decide) (fun c => ?_) (fun c => ?_)
    · rw [if_pos c] at hq
      refine E_inc (v := 1) (ls' := [(3, .int (x3 + 1)), (0, .ref a0), (1, .ref a1), (2, .int x2), (4, .int x4), (5, .int x5)]) 3 d_Desk_mostWon_132 rfl (Nat.le_of_ble_eq_true rfl) (by decide) rfl ?_
      refine E_goto (tgt := 35) d_Desk_mostWon_135 (by decide) ?_
      exact E_sub (ks := [1, 2, 3, 0]) rfl <| hk35 _ _ _ _ _ _ hq
    · rw [if_neg c] at hq
      refine E_il 5 d_Desk_mostWon_60 rfl ?_
      refine E_aln 0 d_Desk_mostWon_62 rfl rfl ?_
      obtain ⟨v1, ev1, hq⟩ := bd hq
      refine E_gR d_Desk_mostWon_63 lk_Desk_21 rfl ev1 ?_
      obtain ⟨v2, ev2, hq⟩ := bd hq
      refine E_ln d_Desk_mostWon_66 ev2 ?_
      refine E_jge (tgt := 132) d_Desk_mostWon_67 (by decide) (fun c => ?_) (fun c => ?_)
      · rw [if_pos c] at hq
        refine E_inc (v := 1) (ls' := [(3, .int (x3 + 1)), (0, .ref a0), (1, .ref a1), (2, .int x2), (4, .int x4), (5, .int x5)]) 3 d_Desk_mostWon_132 rfl (Nat.le_of_ble_eq_true rfl) (by decide) rfl ?_
        refine E_goto (tgt := 35) d_Desk_mostWon_135 (by decide) ?_
        exact E_sub (ks := [1, 2, 3, 0]) rfl <| hk35 _ _ _ _ _ _ hq
      · rw [if_neg c] at hq
        refine E_aln 0 d_Desk_mostWon_70 rfl rfl ?_
        obtain ⟨v3, ev3, hq⟩ := bd hq
        refine E_gR d_Desk_mostWon_71 lk_Desk_18 rfl ev3 ?_
        refine E_il 5 d_Desk_mostWon_74 rfl ?_
        refine E_aln 0 d_Desk_mostWon_76 rfl rfl ?_
        obtain ⟨v4, ev4, hq⟩ := bd hq
        refine E_gR d_Desk_mostWon_77 lk_Desk_18 rfl ev4 ?_
        refine E_il 5 d_Desk_mostWon_80 rfl ?_
        obtain ⟨v5, ev5, hq⟩ := bd hq
        refine E_ra d_Desk_mostWon_82 ev5 ?_
        refine E_aln 0 d_Desk_mostWon_83 rfl rfl ?_
        obtain ⟨v6, ev6, hq⟩ := bd hq
        refine E_gR d_Desk_mostWon_84 lk_Desk_21 rfl ev6 ?_
        refine E_il 5 d_Desk_mostWon_87 rfl ?_
        refine E_ic (v := 1) d_Desk_mostWon_89 (by decide) ?_
        refine E_isub d_Desk_mostWon_90 ?_
        obtain ⟨v7, ev7, hq⟩ := bd hq
        refine E_ra d_Desk_mostWon_91 ev7 ?_
        refine E_il 4 d_Desk_mostWon_92 rfl ?_
        refine E_isub d_Desk_mostWon_94 ?_
        refine E_max d_Desk_mostWon_95 kj_Desk_60 (Nat.le_of_ble_eq_true rfl) ?_
        obtain ⟨h8, eh8, hq⟩ := bd hq
        refine E_wa d_Desk_mostWon_98 eh8 ?_
        refine E_aln 0 d_Desk_mostWon_99 rfl rfl ?_
        obtain ⟨v9, ev9, hq⟩ := bd hq
        refine E_gR d_Desk_mostWon_100 lk_Desk_21 rfl ev9 ?_
        refine E_il 5 d_Desk_mostWon_103 rfl ?_
        refine E_aln 0 d_Desk_mostWon_105 rfl rfl ?_
        obtain ⟨v10, ev10, hq⟩ := bd hq
        refine E_gR d_Desk_mostWon_106 lk_Desk_21 rfl ev10 ?_
        refine E_il 5 d_Desk_mostWon_109 rfl ?_
        obtain ⟨v11, ev11, hq⟩ := bd hq
        refine E_ra d_Desk_mostWon_111 ev11 ?_
        refine E_aln 0 d_Desk_mostWon_112 rfl rfl ?_
        obtain ⟨v12, ev12, hq⟩ := bd hq
        refine E_gR d_Desk_mostWon_113 lk_Desk_18 rfl ev12 ?_
        refine E_il 5 d_Desk_mostWon_116 rfl ?_
        obtain ⟨v13, ev13, hq⟩ := bd hq
        refine E_ra d_Desk_mostWon_118 ev13 ?_
        refine E_il 4 d_Desk_mostWon_119 rfl ?_
        refine E_iadd d_Desk_mostWon_121 ?_
        refine E_max d_Desk_mostWon_122 kj_Desk_60 (Nat.le_of_ble_eq_true rfl) ?_
        obtain ⟨h14, eh14, hq⟩ := bd hq
        refine E_wa d_Desk_mostWon_125 eh14 ?_
        refine E_inc (v := 1) (ls' := [(5, .int (x5 + 1)), (0, .ref a0), (1, .ref a1), (2, .int x2), (3, .int x3), (4, .int x4)]) 5 d_Desk_mostWon_126 rfl (Nat.le_of_ble_eq_true rfl) (by decide) rfl ?_
        refine E_goto (tgt := 54) d_Desk_mostWon_129 (by decide) ?_
        exact E_sub (ks := [1, 2, 3, 4, 5, 0]) rfl <| ih _ _ _ _ _ _ _ _ hq
def f_Desk_mostWon_35 : Nat → Nat → Nat → Int32 → Int32 → PH → Option (Int32 × PH)
  | 0, _, _, _, _, _ => none
  | n + 1, a0, a1, x2, x3, h =>
    (ldI h 6 a1 2).bind fun v1 =>
    if v1 ≤ x3 then
      (ldR h 0 a0 3).bind fun v2 =>
      (lnA h v2).bind fun v3 =>
      (f_Tc_within x2 (v3 - 1) h).bind fun p4 =>
      if p4.1 = 0 then
        some (0, p4.2)
      else
        (ldR p4.2 0 a0 3).bind fun v5 =>
        (rdA p4.2 v5 x2).bind fun v6 =>
        some (v6, p4.2)
    else
      (isO h 6 a1).bind fun _ =>
      (f_Row_get a1 x3 0 h).bind fun p7 =>
      f_Desk_mostWon_54 (fun a0 a1 x2 x3 h => f_Desk_mostWon_35 n a0 a1 x2 x3 h) FU a0 a1 x2 x3 p7.1 1 p7.2
theorem t_Desk_mostWon_35 {d : Nat} (hd : 1 ≤ d) : ∀ (n : Nat) (a0 : Nat) (a1 : Nat) (x2 : Int32) (x3 : Int32) (h : PH) (r : Int32 × PH), f_Desk_mostWon_35 n a0 a1 x2 x3 h = some r → E d 0 0 m_Desk_mostWon 35 [(0, .ref a0), (1, .ref a1), (2, .int x2), (3, .int x3)] [] h (PI r) := by
  intro n
  induction n with
  | zero => intro a0 a1 x2 x3 h r hq; rw [f_Desk_mostWon_35] at hq; cases hq
  | succ n ih =>
    intro a0 a1 x2 x3 h r hq
    rw [f_Desk_mostWon_35] at hq
    obtain ⟨d, rfl⟩ : ∃ e, d = e + 1 := ⟨d - 1, by omega⟩
    refine E_iln 3 d_Desk_mostWon_35 rfl rfl ?_
    refine E_aln 1 d_Desk_mostWon_36 rfl rfl ?_
    obtain ⟨v1, ev1, hq⟩ := bd hq
    refine E_gI d_Desk_mostWon_37 lk_Desk_36 rfl ev1 ?_
    refine E_jge (tgt := 138) d_Desk_mostWon_40 (by decide) (fun c => ?_) (fun c => ?_)
    · rw [if_pos c] at hq
      refine E_iln 2 d_Desk_mostWon_138 rfl rfl ?_
      refine E_aln 0 d_Desk_mostWon_139 rfl rfl ?_
      obtain ⟨v2, ev2, hq⟩ := bd hq
      refine E_gR d_Desk_mostWon_140 lk_Desk_21 rfl ev2 ?_
      obtain ⟨v3, ev3, hq⟩ := bd hq
      refine E_ln d_Desk_mostWon_143 ev3 ?_
      refine E_ic (v := 1) d_Desk_mostWon_144 (by decide) ?_
      refine E_isub d_Desk_mostWon_145 ?_
      obtain ⟨p4, ep4, hq⟩ := bd hq
      refine E_cS2I d_Desk_mostWon_146 ck_Desk_73 (Nat.le_of_ble_eq_true rfl) (Nat.le_of_ble_eq_true rfl) (t_Tc_within (by omega) ep4) ?_
      refine E_zeq (tgt := 161) d_Desk_mostWon_149 (by decide) (fun c => ?_) (fun c => ?_)
      · rw [if_pos c] at hq
        refine E_ic (v := 0) d_Desk_mostWon_161 (by decide) ?_
        exact E_rI d_Desk_mostWon_162 rfl hq
      · rw [if_neg c] at hq
        refine E_aln 0 d_Desk_mostWon_152 rfl rfl ?_
        obtain ⟨v5, ev5, hq⟩ := bd hq
        refine E_gR d_Desk_mostWon_153 lk_Desk_21 rfl ev5 ?_
        refine E_iln 2 d_Desk_mostWon_156 rfl rfl ?_
        obtain ⟨v6, ev6, hq⟩ := bd hq
        refine E_ra d_Desk_mostWon_157 ev6 ?_
        refine E_goto (tgt := 162) d_Desk_mostWon_158 (by decide) ?_
        exact E_rI d_Desk_mostWon_162 rfl hq
    · rw [if_neg c] at hq
      refine E_aln 1 d_Desk_mostWon_43 rfl rfl ?_
      refine E_iln 3 d_Desk_mostWon_44 rfl rfl ?_
      refine E_ic (v := 0) d_Desk_mostWon_45 (by decide) ?_
      obtain ⟨q8, eq8, hq⟩ := bd hq
      obtain ⟨p7, ep7, hq⟩ := bd hq
      refine E_cV2I d_Desk_mostWon_46 ck_Desk_30 rfl rfl eq8 (Nat.le_of_ble_eq_true rfl) (Nat.le_of_ble_eq_true rfl) (t_Row_get (by omega) ep7) ?_
      refine E_is (ls' := [(4, .int p7.1), (0, .ref a0), (1, .ref a1), (2, .int x2), (3, .int x3)]) d_Desk_mostWon_49 (Nat.le_of_ble_eq_true rfl) rfl ?_
      refine E_ic (v := 1) d_Desk_mostWon_51 (by decide) ?_
      refine E_is (ls' := [(5, .int 1), (4, .int p7.1), (0, .ref a0), (1, .ref a1), (2, .int x2), (3, .int x3)]) d_Desk_mostWon_52 (Nat.le_of_ble_eq_true rfl) rfl ?_
      exact E_sub (ks := [2, 3, 4, 5, 1, 0]) rfl <| t_Desk_mostWon_54 (by omega) ih _ _ _ _ _ _ _ _ _ hq
def f_Desk_mostWon_2 : Nat → Nat → Nat → Int32 → Int32 → PH → Option (Int32 × PH)
  | 0, _, _, _, _, _ => none
  | n + 1, a0, a1, x2, x3, h =>
    (ldR h 0 a0 3).bind fun v1 =>
    (lnA h v1).bind fun v2 =>
    if v2 ≤ x3 then
      f_Desk_mostWon_35 FU a0 a1 x2 0 h
    else
      (ldR h 0 a0 3).bind fun v3 =>
      (wrA h v3 x3 0).bind fun h4 =>
      (ldR h4 0 a0 2).bind fun v5 =>
      (wrA h4 v5 x3 (-1000)).bind fun h6 =>
      f_Desk_mostWon_2 n a0 a1 x2 (x3 + 1) h6
theorem t_Desk_mostWon_2 {d : Nat} (hd : 1 ≤ d) : ∀ (n : Nat) (a0 : Nat) (a1 : Nat) (x2 : Int32) (x3 : Int32) (h : PH) (r : Int32 × PH), f_Desk_mostWon_2 n a0 a1 x2 x3 h = some r → E d 0 0 m_Desk_mostWon 2 [(0, .ref a0), (1, .ref a1), (2, .int x2), (3, .int x3)] [] h (PI r) := by
  intro n
  induction n with
  | zero => intro a0 a1 x2 x3 h r hq; rw [f_Desk_mostWon_2] at hq; cases hq
  | succ n ih =>
    intro a0 a1 x2 x3 h r hq
    rw [f_Desk_mostWon_2] at hq
    obtain ⟨d, rfl⟩ : ∃ e, d = e + 1 := ⟨d - 1, by omega⟩
    refine E_iln 3 d_Desk_mostWon_2 rfl rfl ?_
    refine E_aln 0 d_Desk_mostWon_3 rfl rfl ?_
    obtain ⟨v1, ev1, hq⟩ := bd hq
    refine E_gR d_Desk_mostWon_4 lk_Desk_21 rfl ev1 ?_
    obtain ⟨v2, ev2, hq⟩ := bd hq
    refine E_ln d_Desk_mostWon_7 ev2 ?_
    refine E_jge (tgt := 33) d_Desk_mostWon_8 (by decide) (fun c => ?_) (fun c => ?_)
    · rw [if_pos c] at hq
      refine E_ic (v := 0) d_Desk_mostWon_33 (by decide) ?_
      refine E_isn (ls' := [(3, .int 0), (0, .ref a0), (1, .ref a1), (2, .int x2)]) d_Desk_mostWon_34 (Nat.le_of_ble_eq_true rfl) rfl ?_
      exact E_sub (ks := [1, 2, 3, 0]) rfl <| t_Desk_mostWon_35 (by omega) _ _ _ _ _ _ _ hq
    · rw [if_neg c] at hq
      refine E_aln 0 d_Desk_mostWon_11 rfl rfl ?_
      obtain ⟨v3, ev3, hq⟩ := bd hq
      refine E_gR d_Desk_mostWon_12 lk_Desk_21 rfl ev3 ?_
      refine E_iln 3 d_Desk_mostWon_15 rfl rfl ?_
      refine E_ic (v := 0) d_Desk_mostWon_16 (by decide) ?_
      obtain ⟨h4, eh4, hq⟩ := bd hq
      refine E_wa d_Desk_mostWon_17 eh4 ?_
      refine E_aln 0 d_Desk_mostWon_18 rfl rfl ?_
      obtain ⟨v5, ev5, hq⟩ := bd hq
      refine E_gR d_Desk_mostWon_19 lk_Desk_18 rfl ev5 ?_
      refine E_iln 3 d_Desk_mostWon_22 rfl rfl ?_
      refine E_si (v := (-1000)) d_Desk_mostWon_23 (by decide) ?_
      obtain ⟨h6, eh6, hq⟩ := bd hq
      refine E_wa d_Desk_mostWon_26 eh6 ?_
      refine E_inc (v := 1) (ls' := [(3, .int (x3 + 1)), (0, .ref a0), (1, .ref a1), (2, .int x2)]) 3 d_Desk_mostWon_27 rfl (Nat.le_of_ble_eq_true rfl) (by decide) rfl ?_
      refine E_goto (tgt := 2) d_Desk_mostWon_30 (by decide) ?_
      exact E_sub (ks := [1, 2, 3, 0]) rfl <| ih _ _ _ _ _ _ hq
def f_Desk_mostWon (a0 : Nat) (a1 : Nat) (x2 : Int32) (h : PH) : Option (Int32 × PH) :=
  f_Desk_mostWon_2 FU a0 a1 x2 0 h
theorem t_Desk_mostWon {d : Nat} (hd : 1 ≤ d) {a0 : Nat} {a1 : Nat} {x2 : Int32} {h : PH} {r : Int32 × PH} (hq : f_Desk_mostWon a0 a1 x2 h = some r) : E d 0 0 m_Desk_mostWon 0 [(0, .ref a0), (1, .ref a1), (2, .int x2)] [] h (PI r) := by
  unfold f_Desk_mostWon at hq
  obtain ⟨d, rfl⟩ : ∃ e, d = e + 1 := ⟨d - 1, by omega⟩
  refine E_ic (v := 0) d_Desk_mostWon_0 (by decide) ?_
  refine E_isn (ls' := [(3, .int 0), (0, .ref a0), (1, .ref a1), (2, .int x2)]) d_Desk_mostWon_1 (Nat.le_of_ble_eq_true rfl) rfl ?_
  exact E_sub (ks := [1, 2, 3, 0]) rfl <| t_Desk_mostWon_2 (by omega) _ _ _ _ _ _ _ hq
def f_Tc_won_10 (h : PH) : Option (Int32 × PH) :=
  some ((-1), h)
theorem t_Tc_won_10 {d : Nat} (hd : 2 ≤ d) {h : PH} {r : Int32 × PH} (hq : f_Tc_won_10 h = some r) : E d 0 0 m_Tc_won 10 [] [] h (PI r) := by
  unfold f_Tc_won_10 at hq
  obtain ⟨d, rfl⟩ : ∃ e, d = e + 1 := ⟨d - 1, by omega⟩
  refine E_ic (v := (-1)) d_Tc_won_10 (by decide) ?_
  refine E_goto (tgt := 32) d_Tc_won_11 (by decide) ?_
  exact E_rI d_Tc_won_32 rfl hq
def f_Tc_won (a0 : Nat) (x1 : Int32) (h : PH) : Option (Int32 × PH) :=
  if x1 < 1 then
    f_Tc_won_10  h
  else
    if x1 ≤ 3 then
      (ldR h 8 a0 4).bind fun v1 =>
      (ldR h 8 a0 0).bind fun v2 =>
      (ldR h 1 v2 6).bind fun v3 =>
      (ldR h 7 v3 5).bind fun v4 =>
      (isO h 0 v1).bind fun _ =>
      (f_Desk_mostWon v1 v4 x1 h).bind fun p5 =>
      some (p5.1, p5.2)
    else
      f_Tc_won_10  h
theorem t_Tc_won {d : Nat} (hd : 2 ≤ d) {a0 : Nat} {x1 : Int32} {h : PH} {r : Int32 × PH} (hq : f_Tc_won a0 x1 h = some r) : E d 0 0 m_Tc_won 0 [(0, .ref a0), (1, .int x1)] [] h (PI r) := by
  unfold f_Tc_won at hq
  obtain ⟨d, rfl⟩ : ∃ e, d = e + 1 := ⟨d - 1, by omega⟩
  refine E_iln 1 d_Tc_won_0 rfl rfl ?_
  refine E_ic (v := 1) d_Tc_won_1 (by decide) ?_
  refine E_jlt (tgt := 10) d_Tc_won_2 (by decide) (fun c => ?_) (fun c => ?_)
  · rw [if_pos c] at hq
    exact E_sub (ks := []) rfl <| t_Tc_won_10 (by omega) hq
  · rw [if_neg c] at hq
    refine E_iln 1 d_Tc_won_5 rfl rfl ?_
    refine E_ic (v := 3) d_Tc_won_6 (by decide) ?_
    refine E_jle (tgt := 14) d_Tc_won_7 (by decide) (fun c => ?_) (fun c => ?_)
    · rw [if_pos c] at hq
      refine E_aln 0 d_Tc_won_14 rfl rfl ?_
      obtain ⟨v1, ev1, hq⟩ := bd hq
      refine E_gR d_Tc_won_15 lk_Tc_40 rfl ev1 ?_
      refine E_aln 0 d_Tc_won_18 rfl rfl ?_
      obtain ⟨v2, ev2, hq⟩ := bd hq
      refine E_gR d_Tc_won_19 lk_Tc_10 rfl ev2 ?_
      obtain ⟨v3, ev3, hq⟩ := bd hq
      refine E_gR d_Tc_won_22 lk_Tc_230 rfl ev3 ?_
      obtain ⟨v4, ev4, hq⟩ := bd hq
      refine E_gR d_Tc_won_25 lk_Tc_300 rfl ev4 ?_
      refine E_iln 1 d_Tc_won_28 rfl rfl ?_
      obtain ⟨q6, eq6, hq⟩ := bd hq
      obtain ⟨p5, ep5, hq⟩ := bd hq
      refine E_cV2I d_Tc_won_29 ck_Tc_303 rfl rfl eq6 (Nat.le_of_ble_eq_true rfl) (Nat.le_of_ble_eq_true rfl) (t_Desk_mostWon (by omega) ep5) ?_
      exact E_rI d_Tc_won_32 rfl hq
    · rw [if_neg c] at hq
      exact E_sub (ks := []) rfl <| t_Tc_won_10 (by omega) hq
def f_Tc_ledger_24 (a0 : Nat) (x1 : Int32) (x2 : Int32) (s0 : Int32) (s1 : Int32) (h : PH) : Option (Int32 × PH) :=
  (f_Tc_within s1 s0 h).bind fun p1 =>
  if p1.1 = 0 then
    rtZ 0 p1.2
  else
    (ldR p1.2 8 a0 0).bind fun v2 =>
    (ldR p1.2 1 v2 6).bind fun v3 =>
    (ldR p1.2 7 v3 7).bind fun v4 =>
    (wrA p1.2 v4 x1 x2).bind fun h5 =>
    rtZ 1 h5
theorem t_Tc_ledger_24 {d : Nat} (hd : 1 ≤ d) {a0 : Nat} {x1 : Int32} {x2 : Int32} {s0 : Int32} {s1 : Int32} {h : PH} {r : Int32 × PH} (hq : f_Tc_ledger_24 a0 x1 x2 s0 s1 h = some r) : E d 0 0 m_Tc_ledger 24 [(0, .ref a0), (1, .int x1), (2, .int x2)] [.int s0, .int s1] h (PI r) := by
  unfold f_Tc_ledger_24 at hq
  obtain ⟨d, rfl⟩ : ∃ e, d = e + 1 := ⟨d - 1, by omega⟩
  obtain ⟨p1, ep1, hq⟩ := bd hq
  refine E_cS2I d_Tc_ledger_24 ck_Tc_57 (Nat.le_of_ble_eq_true rfl) (Nat.le_of_ble_eq_true rfl) (t_Tc_within (by omega) ep1) ?_
  refine E_zne (tgt := 32) d_Tc_ledger_27 (by decide) (fun c => ?_) (fun c => ?_)
  · rw [if_neg c] at hq
    refine E_aln 0 d_Tc_ledger_32 rfl rfl ?_
    obtain ⟨v2, ev2, hq⟩ := bd hq
    refine E_gR d_Tc_ledger_33 lk_Tc_10 rfl ev2 ?_
    obtain ⟨v3, ev3, hq⟩ := bd hq
    refine E_gR d_Tc_ledger_36 lk_Tc_230 rfl ev3 ?_
    obtain ⟨v4, ev4, hq⟩ := bd hq
    refine E_gR d_Tc_ledger_39 lk_Tc_306 rfl ev4 ?_
    refine E_iln 1 d_Tc_ledger_42 rfl rfl ?_
    refine E_iln 2 d_Tc_ledger_43 rfl rfl ?_
    obtain ⟨h5, eh5, hq⟩ := bd hq
    refine E_wa d_Tc_ledger_44 eh5 ?_
    refine E_ic (v := 1) d_Tc_ledger_45 (by decide) ?_
    exact E_rZ d_Tc_ledger_46 rfl hq
  · rw [if_pos c] at hq
    refine E_ic (v := 0) d_Tc_ledger_30 (by decide) ?_
    exact E_rZ d_Tc_ledger_31 rfl hq
def f_Tc_ledger (a0 : Nat) (x1 : Int32) (x2 : Int32) (h : PH) : Option (Int32 × PH) :=
  (f_Tc_within x1 23 h).bind fun p1 =>
  if p1.1 = 0 then
    rtZ 0 p1.2
  else
    if 16 ≤ x1 then
      f_Tc_ledger_24 a0 x1 x2 999 x2 p1.2
    else
      f_Tc_ledger_24 a0 x1 x2 99 x2 p1.2
theorem t_Tc_ledger {d : Nat} (hd : 1 ≤ d) {a0 : Nat} {x1 : Int32} {x2 : Int32} {h : PH} {r : Int32 × PH} (hq : f_Tc_ledger a0 x1 x2 h = some r) : E d 0 0 m_Tc_ledger 0 [(0, .ref a0), (1, .int x1), (2, .int x2)] [] h (PI r) := by
  unfold f_Tc_ledger at hq
  obtain ⟨d, rfl⟩ : ∃ e, d = e + 1 := ⟨d - 1, by omega⟩
  refine E_iln 1 d_Tc_ledger_0 rfl rfl ?_
  refine E_bi (v := 23) d_Tc_ledger_1 (by decide) ?_
  obtain ⟨p1, ep1, hq⟩ := bd hq
  refine E_cS2I d_Tc_ledger_3 ck_Tc_57 (Nat.le_of_ble_eq_true rfl) (Nat.le_of_ble_eq_true rfl) (t_Tc_within (by omega) ep1) ?_
  refine E_zeq (tgt := 30) d_Tc_ledger_6 (by decide) (fun c => ?_) (fun c => ?_)
  · rw [if_pos c] at hq
    refine E_ic (v := 0) d_Tc_ledger_30 (by decide) ?_
    exact E_rZ d_Tc_ledger_31 rfl hq
  · rw [if_neg c] at hq
    refine E_iln 2 d_Tc_ledger_9 rfl rfl ?_
    refine E_iln 1 d_Tc_ledger_10 rfl rfl ?_
    refine E_bi (v := 16) d_Tc_ledger_11 (by decide) ?_
    refine E_jge (tgt := 21) d_Tc_ledger_13 (by decide) (fun c => ?_) (fun c => ?_)
    · rw [if_pos c] at hq
      refine E_si (v := 999) d_Tc_ledger_21 (by decide) ?_
      exact t_Tc_ledger_24 (by omega) hq
    · rw [if_neg c] at hq
      refine E_bi (v := 99) d_Tc_ledger_16 (by decide) ?_
      refine E_goto (tgt := 24) d_Tc_ledger_18 (by decide) ?_
      exact t_Tc_ledger_24 (by omega) hq
def f_Told_aboveSum_67 (k27 : Nat → Int32 → Int32 → Int32 → Int32 → Int32 → PH → Option (Int32 × PH)) (a0 : Nat) (x2 : Int32) (x3 : Int32) (x4 : Int32) (x6 : Int32) (s0 : Int32) (s1 : Int32) (h : PH) : Option (Int32 × PH) :=
  k27 a0 x2 x3 x4 (s1 + s0) (x6 + 1) h
theorem t_Told_aboveSum_67 {d : Nat} (hd : 1 ≤ d) {k27 : Nat → Int32 → Int32 → Int32 → Int32 → Int32 → PH → Option (Int32 × PH)} (hk27 : ∀ (a0 : Nat) (x2 : Int32) (x3 : Int32) (x4 : Int32) (x5 : Int32) (x6 : Int32) (h : PH) (r : Int32 × PH), k27 a0 x2 x3 x4 x5 x6 h = some r → E d 0 0 m_Told_aboveSum 27 [(0, .ref a0), (2, .int x2), (3, .int x3), (4, .int x4), (5, .int x5), (6, .int x6)] [] h (PI r)) {a0 : Nat} {x2 : Int32} {x3 : Int32} {x4 : Int32} {x6 : Int32} {s0 : Int32} {s1 : Int32} {h : PH} {r : Int32 × PH} (hq : f_Told_aboveSum_67 k27 a0 x2 x3 x4 x6 s0 s1 h = some r) : E d 0 0 m_Told_aboveSum 67 [(0, .ref a0), (2, .int x2), (3, .int x3), (4, .int x4), (6, .int x6)] [.int s0, .int s1] h (PI r) := by
  unfold f_Told_aboveSum_67 at hq
  obtain ⟨d, rfl⟩ : ∃ e, d = e + 1 := ⟨d - 1, by omega⟩
  refine E_iadd d_Told_aboveSum_67 ?_
  refine E_is (ls' := [(5, .int (s1 + s0)), (0, .ref a0), (2, .int x2), (3, .int x3), (4, .int x4), (6, .int x6)]) d_Told_aboveSum_68 (Nat.le_of_ble_eq_true rfl) rfl ?_
  refine E_inc (v := 1) (ls' := [(6, .int (x6 + 1)), (5, .int (s1 + s0)), (0, .ref a0), (2, .int x2), (3, .int x3), (4, .int x4)]) 5 d_Told_aboveSum_70 rfl (Nat.le_of_ble_eq_true rfl) (by decide) rfl ?_
  refine E_goto (tgt := 27) d_Told_aboveSum_73 (by decide) ?_
  exact E_sub (ks := [2, 3, 4, 5, 1, 0]) rfl <| hk27 _ _ _ _ _ _ _ _ hq
def f_Told_aboveSum_27 : Nat → Nat → Int32 → Int32 → Int32 → Int32 → Int32 → PH → Option (Int32 × PH)
  | 0, _, _, _, _, _, _, _ => none
  | n + 1, a0, x2, x3, x4, x5, x6, h =>
    if 4 ≤ x6 then
      some (x5, h)
    else
      (f_Tc_within ((x2 * x3) + (x6 * x4)) 15 h).bind fun p1 =>
      if p1.1 = 0 then
        f_Told_aboveSum_67 (fun a0 x2 x3 x4 x5 x6 h => f_Told_aboveSum_27 n a0 x2 x3 x4 x5 x6 h) a0 x2 x3 x4 x6 0 x5 p1.2
      else
        (ldR p1.2 7 a0 7).bind fun v2 =>
        (rdA p1.2 v2 ((x2 * x3) + (x6 * x4))).bind fun v3 =>
        f_Told_aboveSum_67 (fun a0 x2 x3 x4 x5 x6 h => f_Told_aboveSum_27 n a0 x2 x3 x4 x5 x6 h) a0 x2 x3 x4 x6 v3 x5 p1.2
theorem t_Told_aboveSum_27 {d : Nat} (hd : 1 ≤ d) : ∀ (n : Nat) (a0 : Nat) (x2 : Int32) (x3 : Int32) (x4 : Int32) (x5 : Int32) (x6 : Int32) (h : PH) (r : Int32 × PH), f_Told_aboveSum_27 n a0 x2 x3 x4 x5 x6 h = some r → E d 0 0 m_Told_aboveSum 27 [(0, .ref a0), (2, .int x2), (3, .int x3), (4, .int x4), (5, .int x5), (6, .int x6)] [] h (PI r) := by
  intro n
  induction n with
  | zero => intro a0 x2 x3 x4 x5 x6 h r hq; rw [f_Told_aboveSum_27] at hq; cases hq
  | succ n ih =>
    intro a0 x2 x3 x4 x5 x6 h r hq
    rw [f_Told_aboveSum_27] at hq
    obtain ⟨d, rfl⟩ : ∃ e, d = e + 1 := ⟨d - 1, by omega⟩
    refine E_il 5 d_Told_aboveSum_27 rfl ?_
    refine E_ic (v := 4) d_Told_aboveSum_29 (by decide) ?_
    refine E_jge (tgt := 76) d_Told_aboveSum_30 (by decide) (fun c => ?_) (fun c => ?_)
    · rw [if_pos c] at hq
      refine E_il 4 d_Told_aboveSum_76 rfl ?_
      exact E_rI d_Told_aboveSum_78 rfl hq
    · rw [if_neg c] at hq
      refine E_iln 1 d_Told_aboveSum_33 rfl rfl ?_
      refine E_iln 2 d_Told_aboveSum_34 rfl rfl ?_
      refine E_imul d_Told_aboveSum_35 ?_
      refine E_il 5 d_Told_aboveSum_36 rfl ?_
      refine E_il 3 d_Told_aboveSum_38 rfl ?_
      refine E_imul d_Told_aboveSum_40 ?_
      refine E_iadd d_Told_aboveSum_41 ?_
      refine E_is (ls' := [(7, .int ((x2 * x3) + (x6 * x4))), (0, .ref a0), (2, .int x2), (3, .int x3), (4, .int x4), (5, .int x5), (6, .int x6)]) d_Told_aboveSum_42 (Nat.le_of_ble_eq_true rfl) rfl ?_
      refine E_il 5 d_Told_aboveSum_44 rfl ?_
      refine E_il 0 d_Told_aboveSum_46 rfl ?_
      refine E_bi (v := 15) d_Told_aboveSum_48 (by decide) ?_
      obtain ⟨p1, ep1, hq⟩ := bd hq
      refine E_cS2I d_Told_aboveSum_50 ck_Told_59 (Nat.le_of_ble_eq_true rfl) (Nat.le_of_ble_eq_true rfl) (t_Tc_within (by omega) ep1) ?_
      refine E_zeq (tgt := 66) d_Told_aboveSum_53 (by decide) (fun c => ?_) (fun c => ?_)
      · rw [if_pos c] at hq
        refine E_ic (v := 0) d_Told_aboveSum_66 (by decide) ?_
        exact E_sub (ks := [1, 2, 3, 4, 6]) rfl <| t_Told_aboveSum_67 (by omega) ih hq
      · rw [if_neg c] at hq
        refine E_aln 1 d_Told_aboveSum_56 rfl rfl ?_
        obtain ⟨v2, ev2, hq⟩ := bd hq
        refine E_gR d_Told_aboveSum_57 lk_Told_39 rfl ev2 ?_
        refine E_il 0 d_Told_aboveSum_60 rfl ?_
        obtain ⟨v3, ev3, hq⟩ := bd hq
        refine E_ra d_Told_aboveSum_62 ev3 ?_
        refine E_goto (tgt := 67) d_Told_aboveSum_63 (by decide) ?_
        exact E_sub (ks := [1, 2, 3, 4, 6]) rfl <| t_Told_aboveSum_67 (by omega) ih hq
def f_Told_aboveSum_22 (a0 : Nat) (x2 : Int32) (x3 : Int32) (x4 : Int32) (s0 : Int32) (h : PH) : Option (Int32 × PH) :=
  f_Told_aboveSum_27 FU a0 x2 x3 x4 s0 0 h
theorem t_Told_aboveSum_22 {d : Nat} (hd : 1 ≤ d) {a0 : Nat} {x2 : Int32} {x3 : Int32} {x4 : Int32} {s0 : Int32} {h : PH} {r : Int32 × PH} (hq : f_Told_aboveSum_22 a0 x2 x3 x4 s0 h = some r) : E d 0 0 m_Told_aboveSum 22 [(0, .ref a0), (2, .int x2), (3, .int x3), (4, .int x4)] [.int s0] h (PI r) := by
  unfold f_Told_aboveSum_22 at hq
  obtain ⟨d, rfl⟩ : ∃ e, d = e + 1 := ⟨d - 1, by omega⟩
  refine E_is (ls' := [(5, .int s0), (0, .ref a0), (2, .int x2), (3, .int x3), (4, .int x4)]) d_Told_aboveSum_22 (Nat.le_of_ble_eq_true rfl) rfl ?_
  refine E_ic (v := 0) d_Told_aboveSum_24 (by decide) ?_
  refine E_is (ls' := [(6, .int 0), (5, .int s0), (0, .ref a0), (2, .int x2), (3, .int x3), (4, .int x4)]) d_Told_aboveSum_25 (Nat.le_of_ble_eq_true rfl) rfl ?_
  exact E_sub (ks := [2, 3, 4, 5, 1, 0]) rfl <| t_Told_aboveSum_27 (by omega) _ _ _ _ _ _ _ _ _ hq
def f_Told_aboveSum_21 (a0 : Nat) (x2 : Int32) (x3 : Int32) (x4 : Int32) (h : PH) : Option (Int32 × PH) :=
  f_Told_aboveSum_22 a0 x2 x3 x4 0 h
theorem t_Told_aboveSum_21 {d : Nat} (hd : 1 ≤ d) {a0 : Nat} {x2 : Int32} {x3 : Int32} {x4 : Int32} {h : PH} {r : Int32 × PH} (hq : f_Told_aboveSum_21 a0 x2 x3 x4 h = some r) : E d 0 0 m_Told_aboveSum 21 [(0, .ref a0), (2, .int x2), (3, .int x3), (4, .int x4)] [] h (PI r) := by
  unfold f_Told_aboveSum_21 at hq
  obtain ⟨d, rfl⟩ : ∃ e, d = e + 1 := ⟨d - 1, by omega⟩
  refine E_ic (v := 0) d_Told_aboveSum_21 (by decide) ?_
  exact t_Told_aboveSum_22 (by omega) hq
def f_Told_aboveSum (a0 : Nat) (x1 : Int32) (x2 : Int32) (x3 : Int32) (x4 : Int32) (h : PH) : Option (Int32 × PH) :=
  if x2 < 0 then
    f_Told_aboveSum_21 a0 x2 x3 x4 h
  else
    if 4 ≤ x2 then
      f_Told_aboveSum_21 a0 x2 x3 x4 h
    else
      (ldR h 7 a0 7).bind fun v1 =>
      (rdA h v1 (x1 + x2)).bind fun v2 =>
      f_Told_aboveSum_22 a0 x2 x3 x4 (-v2) h
theorem t_Told_aboveSum {d : Nat} (hd : 1 ≤ d) {a0 : Nat} {x1 : Int32} {x2 : Int32} {x3 : Int32} {x4 : Int32} {h : PH} {r : Int32 × PH} (hq : f_Told_aboveSum a0 x1 x2 x3 x4 h = some r) : E d 0 0 m_Told_aboveSum 0 [(0, .ref a0), (1, .int x1), (2, .int x2), (3, .int x3), (4, .int x4)] [] h (PI r) := by
  unfold f_Told_aboveSum at hq
  obtain ⟨d, rfl⟩ : ∃ e, d = e + 1 := ⟨d - 1, by omega⟩
  refine E_iln 2 d_Told_aboveSum_0 rfl rfl ?_
  refine E_zlt (tgt := 21) d_Told_aboveSum_1 (by decide) (fun c => ?_) (fun c => ?_)
  · rw [if_pos c] at hq
    exact E_sub (ks := [0, 2, 3, 4]) rfl <| t_Told_aboveSum_21 (by omega) hq
  · rw [if_neg c] at hq
    refine E_iln 2 d_Told_aboveSum_4 rfl rfl ?_
    refine E_ic (v := 4) d_Told_aboveSum_5 (by decide) ?_
    refine E_jge (tgt := 21) d_Told_aboveSum_6 (by decide) (fun c => ?_) (fun c => ?_)
    · rw [if_pos c] at hq
      exact E_sub (ks := [0, 2, 3, 4]) rfl <| t_Told_aboveSum_21 (by omega) hq
    · rw [if_neg c] at hq
      refine E_aln 0 d_Told_aboveSum_9 rfl rfl ?_
      obtain ⟨v1, ev1, hq⟩ := bd hq
      refine E_gR d_Told_aboveSum_10 lk_Told_39 rfl ev1 ?_
      refine E_iln 1 d_Told_aboveSum_13 rfl rfl ?_
      refine E_iln 2 d_Told_aboveSum_14 rfl rfl ?_
      refine E_iadd d_Told_aboveSum_15 ?_
      obtain ⟨v2, ev2, hq⟩ := bd hq
      refine E_ra d_Told_aboveSum_16 ev2 ?_
      refine E_ineg d_Told_aboveSum_17 ?_
      refine E_goto (tgt := 22) d_Told_aboveSum_18 (by decide) ?_
      exact E_sub (ks := [0, 2, 3, 4]) rfl <| t_Told_aboveSum_22 (by omega) hq
