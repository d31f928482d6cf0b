def f_Mo_takenAt_4 : Nat → Nat → Int32 → Int32 → Int32 → PH → Option (Int32 × PH)
  | 0, _, _, _, _, _ => none
  | n + 1, a0, x1, x2, x3, h =>
    (ldI h 9 a0 6).bind fun v1 =>
    if v1 ≤ x3 then
      some (x2, h)
    else
      (ldR h 9 a0 1).bind fun v2 =>
      (rdA h v2 (43 + x3)).bind fun v3 =>
      if v3 = 0 then
        (ldR h 9 a0 1).bind fun v4 =>
        (rdA h v4 (19 + x3)).bind fun v5 =>
        (ldR h 9 a0 1).bind fun v6 =>
        (rdA h v6 (7 + x3)).bind fun v7 =>
        if v7 < (x1 * v5) then
          f_Mo_takenAt_4 n a0 x1 x2 (x3 + 1) h
        else
          (ldR h 9 a0 1).bind fun v8 =>
          (rdA h v8 (19 + x3)).bind fun v9 =>
          f_Mo_takenAt_4 n a0 x1 (x2 + (x1 * v9)) (x3 + 1) h
      else
        f_Mo_takenAt_4 n a0 x1 x2 (x3 + 1) h
theorem t_Mo_takenAt_4 {d : Nat} (hd : 0 ≤ d) : ∀ (n : Nat) (a0 : Nat) (x1 : Int32) (x2 : Int32) (x3 : Int32) (h : PH) (r : Int32 × PH), f_Mo_takenAt_4 n a0 x1 x2 x3 h = some r → E d 0 0 m_Mo_takenAt 4 [(0, .ref a0), (1, .int x1), (2, .int x2), (3, .int x3)] [] h (PI r) := by
  intro n
  induction n with
  | zero => intro a0 x1 x2 x3 h r hq; rw [f_Mo_takenAt_4] at hq; cases hq
  | succ n ih =>
    intro a0 x1 x2 x3 h r hq
    rw [f_Mo_takenAt_4] at hq
    refine E_iln 3 d_Mo_takenAt_4 rfl rfl ?_
    refine E_aln 0 d_Mo_takenAt_5 rfl rfl ?_
    obtain ⟨v1, ev1, hq⟩ := bd hq
    refine E_gI d_Mo_takenAt_6 lk_Mo_152 rfl ev1 ?_
    refine E_jge (tgt := 67) d_Mo_takenAt_9 (by decide) (fun c => ?_) (fun c => ?_)
    · rw [if_pos c] at hq
      refine E_iln 2 d_Mo_takenAt_67 rfl rfl ?_
      exact E_rI d_Mo_takenAt_68 rfl hq
    · rw [if_neg c] at hq
      refine E_aln 0 d_Mo_takenAt_12 rfl rfl ?_
      obtain ⟨v2, ev2, hq⟩ := bd hq
      refine E_gR d_Mo_takenAt_13 lk_Mo_7 rfl ev2 ?_
      refine E_bi (v := 43) d_Mo_takenAt_16 (by decide) ?_
      refine E_iln 3 d_Mo_takenAt_18 rfl rfl ?_
      refine E_iadd d_Mo_takenAt_19 ?_
      obtain ⟨v3, ev3, hq⟩ := bd hq
      refine E_ra d_Mo_takenAt_20 ev3 ?_
      refine E_zne (tgt := 61) d_Mo_takenAt_21 (by decide) (fun c => ?_) (fun c => ?_)
      · rw [if_neg c] at hq
        refine E_inc (v := 1) (ls' := [(3, .int (x3 + 1)), (0, .ref a0), (1, .int x1), (2, .int x2)]) 3 d_Mo_takenAt_61 rfl (Nat.le_of_ble_eq_true rfl) (by decide) rfl ?_
        refine E_goto (tgt := 4) d_Mo_takenAt_64 (by decide) ?_
        exact E_sub (ks := [1, 2, 3, 0]) rfl <| ih _ _ _ _ _ _ hq
      · rw [if_pos c] at hq
        refine E_iln 1 d_Mo_takenAt_24 rfl rfl ?_
        refine E_aln 0 d_Mo_takenAt_25 rfl rfl ?_
        obtain ⟨v4, ev4, hq⟩ := bd hq
        refine E_gR d_Mo_takenAt_26 lk_Mo_7 rfl ev4 ?_
        refine E_bi (v := 19) d_Mo_takenAt_29 (by decide) ?_
        refine E_iln 3 d_Mo_takenAt_31 rfl rfl ?_
        refine E_iadd d_Mo_takenAt_32 ?_
        obtain ⟨v5, ev5, hq⟩ := bd hq
        refine E_ra d_Mo_takenAt_33 ev5 ?_
        refine E_imul d_Mo_takenAt_34 ?_
        refine E_aln 0 d_Mo_takenAt_35 rfl rfl ?_
        obtain ⟨v6, ev6, hq⟩ := bd hq
        refine E_gR d_Mo_takenAt_36 lk_Mo_7 rfl ev6 ?_
        refine E_bi (v := 7) d_Mo_takenAt_39 (by decide) ?_
        refine E_iln 3 d_Mo_takenAt_41 rfl rfl ?_
        refine E_iadd d_Mo_takenAt_42 ?_
        obtain ⟨v7, ev7, hq⟩ := bd hq
        refine E_ra d_Mo_takenAt_43 ev7 ?_
        refine E_jgt (tgt := 61) d_Mo_takenAt_44 (by decide) (fun c => ?_) (fun c => ?_)
        · rw [if_pos c] at hq
          refine E_inc (v := 1) (ls' := [(3, .int (x3 + 1)), (0, .ref a0), (1, .int x1), (2, .int x2)]) 3 d_Mo_takenAt_61 rfl (Nat.le_of_ble_eq_true rfl) (by decide) rfl ?_
          refine E_goto (tgt := 4) d_Mo_takenAt_64 (by decide) ?_
          exact E_sub (ks := [1, 2, 3, 0]) rfl <| ih _ _ _ _ _ _ hq
        · rw [if_neg c] at hq
          refine E_iln 2 d_Mo_takenAt_47 rfl rfl ?_
          refine E_iln 1 d_Mo_takenAt_48 rfl rfl ?_
          refine E_aln 0 d_Mo_takenAt_49 rfl rfl ?_
          obtain ⟨v8, ev8, hq⟩ := bd hq
          refine E_gR d_Mo_takenAt_50 lk_Mo_7 rfl ev8 ?_
          refine E_bi (v := 19) d_Mo_takenAt_53 (by decide) ?_
          refine E_iln 3 d_Mo_takenAt_55 rfl rfl ?_
          refine E_iadd d_Mo_takenAt_56 ?_
          obtain ⟨v9, ev9, hq⟩ := bd hq
          refine E_ra d_Mo_takenAt_57 ev9 ?_
          refine E_imul d_Mo_takenAt_58 ?_
          refine E_iadd d_Mo_takenAt_59 ?_
          refine E_isn (ls' := [(2, .int (x2 + (x1 * v9))), (0, .ref a0), (1, .int x1), (3, .int x3)]) d_Mo_takenAt_60 (Nat.le_of_ble_eq_true rfl) rfl ?_
          refine E_inc (v := 1) (ls' := [(3, .int (x3 + 1)), (2, .int (x2 + (x1 * v9))), (0, .ref a0), (1, .int x1)]) 3 d_Mo_takenAt_61 rfl (Nat.le_of_ble_eq_true rfl) (by decide) rfl ?_
          refine E_goto (tgt := 4) d_Mo_takenAt_64 (by decide) ?_
          exact E_sub (ks := [2, 3, 1, 0]) rfl <| ih _ _ _ _ _ _ hq
def f_Mo_takenAt (a0 : Nat) (x1 : Int32) (h : PH) : Option (Int32 × PH) :=
  f_Mo_takenAt_4 FU a0 x1 0 0 h
theorem t_Mo_takenAt {d : Nat} (hd : 0 ≤ d) {a0 : Nat} {x1 : Int32} {h : PH} {r : Int32 × PH} (hq : f_Mo_takenAt a0 x1 h = some r) : E d 0 0 m_Mo_takenAt 0 [(0, .ref a0), (1, .int x1)] [] h (PI r) := by
  unfold f_Mo_takenAt at hq
  refine E_ic (v := 0) d_Mo_takenAt_0 (by decide) ?_
  refine E_isn (ls' := [(2, .int 0), (0, .ref a0), (1, .int x1)]) d_Mo_takenAt_1 (Nat.le_of_ble_eq_true rfl) rfl ?_
  refine E_ic (v := 0) d_Mo_takenAt_2 (by decide) ?_
  refine E_isn (ls' := [(3, .int 0), (2, .int 0), (0, .ref a0), (1, .int x1)]) d_Mo_takenAt_3 (Nat.le_of_ble_eq_true rfl) rfl ?_
  exact E_sub (ks := [2, 3, 1, 0]) rfl <| t_Mo_takenAt_4 (by omega) _ _ _ _ _ _ _ hq
def f_Mo_rate_21 : Nat → Nat → Int32 → Int32 → Int32 → PH → Option (Int32 × PH)
  | 0, _, _, _, _, _ => none
  | n + 1, a0, x1, x2, x3, h =>
    if 99 < x3 then
      if x1 = 0 then
        some (x2, h)
      else
        (isO h 9 a0).bind fun _ =>
        (f_Mo_takenAt a0 x2 h).bind fun p1 =>
        some (p1.1, p1.2)
    else
      (isO h 9 a0).bind fun _ =>
      (f_Mo_takenAt a0 x3 h).bind fun p3 =>
      (isO p3.2 9 a0).bind fun _ =>
      (f_Mo_takenAt a0 x2 p3.2).bind fun p5 =>
      if p3.1 ≤ p5.1 then
        f_Mo_rate_21 n a0 x1 x2 (x3 + 1) p5.2
      else
        f_Mo_rate_21 n a0 x1 x3 (x3 + 1) p5.2
theorem t_Mo_rate_21 {d : Nat} (hd : 1 ≤ d) : ∀ (n : Nat) (a0 : Nat) (x1 : Int32) (x2 : Int32) (x3 : Int32) (h : PH) (r : Int32 × PH), f_Mo_rate_21 n a0 x1 x2 x3 h = some r → E d 0 0 m_Mo_rate 21 [(0, .ref a0), (1, .int x1), (2, .int x2), (3, .int x3)] [] h (PI r) := by
  intro n
  induction n with
  | zero => intro a0 x1 x2 x3 h r hq; rw [f_Mo_rate_21] at hq; cases hq
  | succ n ih =>
    intro a0 x1 x2 x3 h r hq
    rw [f_Mo_rate_21] at hq
    obtain ⟨d, rfl⟩ : ∃ e, d = e + 1 := ⟨d - 1, by omega⟩
    refine E_iln 3 d_Mo_rate_21 rfl rfl ?_
    refine E_bi (v := 99) d_Mo_rate_22 (by decide) ?_
    refine E_jgt (tgt := 48) d_Mo_rate_24 (by decide) (fun c => ?_) (fun c => ?_)
    · rw [if_pos c] at hq
      refine E_iln 1 d_Mo_rate_48 rfl rfl ?_
      refine E_zne (tgt := 56) d_Mo_rate_49 (by decide) (fun c => ?_) (fun c => ?_)
      · rw [if_neg c] at hq
        refine E_aln 0 d_Mo_rate_56 rfl rfl ?_
        refine E_iln 2 d_Mo_rate_57 rfl rfl ?_
        obtain ⟨q2, eq2, hq⟩ := bd hq
        obtain ⟨p1, ep1, hq⟩ := bd hq
        refine E_cV1I d_Mo_rate_58 ck_Mo_412 rfl rfl eq2 (Nat.le_of_ble_eq_true rfl) (Nat.le_of_ble_eq_true rfl) (t_Mo_takenAt (by omega) ep1) ?_
        exact E_rI d_Mo_rate_61 rfl hq
      · rw [if_pos c] at hq
        refine E_iln 2 d_Mo_rate_52 rfl rfl ?_
        refine E_goto (tgt := 61) d_Mo_rate_53 (by decide) ?_
        exact E_rI d_Mo_rate_61 rfl hq
    · rw [if_neg c] at hq
      refine E_aln 0 d_Mo_rate_27 rfl rfl ?_
      refine E_iln 3 d_Mo_rate_28 rfl rfl ?_
      obtain ⟨q4, eq4, hq⟩ := bd hq
      obtain ⟨p3, ep3, hq⟩ := bd hq
      refine E_cV1I d_Mo_rate_29 ck_Mo_412 rfl rfl eq4 (Nat.le_of_ble_eq_true rfl) (Nat.le_of_ble_eq_true rfl) (t_Mo_takenAt (by omega) ep3) ?_
      refine E_aln 0 d_Mo_rate_32 rfl rfl ?_
      refine E_iln 2 d_Mo_rate_33 rfl rfl ?_
      obtain ⟨q6, eq6, hq⟩ := bd hq
      obtain ⟨p5, ep5, hq⟩ := bd hq
      refine E_cV1I d_Mo_rate_34 ck_Mo_412 rfl rfl eq6 (Nat.le_of_ble_eq_true rfl) (Nat.le_of_ble_eq_true rfl) (t_Mo_takenAt (by omega) ep5) ?_
      refine E_jle (tgt := 42) d_Mo_rate_37 (by decide) (fun c => ?_) (fun c => ?_)
      · rw [if_pos c] at hq
        refine E_inc (v := 1) (ls' := [(3, .int (x3 + 1)), (0, .ref a0), (1, .int x1), (2, .int x2)]) 3 d_Mo_rate_42 rfl (Nat.le_of_ble_eq_true rfl) (by decide) rfl ?_
        refine E_goto (tgt := 21) d_Mo_rate_45 (by decide) ?_
        exact E_sub (ks := [1, 2, 3, 0]) rfl <| ih _ _ _ _ _ _ hq
      · rw [if_neg c] at hq
        refine E_iln 3 d_Mo_rate_40 rfl rfl ?_
        refine E_isn (ls' := [(2, .int x3), (0, .ref a0), (1, .int x1), (3, .int x3)]) d_Mo_rate_41 (Nat.le_of_ble_eq_true rfl) rfl ?_
        refine E_inc (v := 1) (ls' := [(3, .int (x3 + 1)), (2, .int x3), (0, .ref a0), (1, .int x1)]) 3 d_Mo_rate_42 rfl (Nat.le_of_ble_eq_true rfl) (by decide) rfl ?_
        refine E_goto (tgt := 21) d_Mo_rate_45 (by decide) ?_
        exact E_sub (ks := [2, 3, 1, 0]) rfl <| ih _ _ _ _ _ _ hq
def f_Mo_rate (a0 : Nat) (x1 : Int32) (h : PH) : Option (Int32 × PH) :=
  (stI h 9 a0 0 0).bind fun h1 =>
  (isO h1 9 a0).bind fun _ =>
  (f_Mo_isIn a0 x1 0 1 h1).bind fun p2 =>
  if p2.1 = 0 then
    some ((-1), p2.2)
  else
    f_Mo_rate_21 FU a0 x1 0 1 p2.2
theorem t_Mo_rate {d : Nat} (hd : 1 ≤ d) {a0 : Nat} {x1 : Int32} {h : PH} {r : Int32 × PH} (hq : f_Mo_rate a0 x1 h = some r) : E d 0 0 m_Mo_rate 0 [(0, .ref a0), (1, .int x1)] [] h (PI r) := by
  unfold f_Mo_rate at hq
  obtain ⟨d, rfl⟩ : ∃ e, d = e + 1 := ⟨d - 1, by omega⟩
  refine E_aln 0 d_Mo_rate_0 rfl rfl ?_
  refine E_ic (v := 0) d_Mo_rate_1 (by decide) ?_
  obtain ⟨h1, eh1, hq⟩ := bd hq
  refine E_pI d_Mo_rate_2 lp_Mo_m_140 rfl eh1 ?_
  refine E_aln 0 d_Mo_rate_5 rfl rfl ?_
  refine E_iln 1 d_Mo_rate_6 rfl rfl ?_
  refine E_ic (v := 0) d_Mo_rate_7 (by decide) ?_
  refine E_ic (v := 1) d_Mo_rate_8 (by decide) ?_
  obtain ⟨q3, eq3, hq⟩ := bd hq
  obtain ⟨p2, ep2, hq⟩ := bd hq
  refine E_cV3I d_Mo_rate_9 ck_Mo_162 rfl rfl eq3 (Nat.le_of_ble_eq_true rfl) (Nat.le_of_ble_eq_true rfl) (t_Mo_isIn (by omega) ep2) ?_
  refine E_zne (tgt := 17) d_Mo_rate_12 (by decide) (fun c => ?_) (fun c => ?_)
  · rw [if_neg c] at hq
    refine E_ic (v := 0) d_Mo_rate_17 (by decide) ?_
    refine E_isn (ls' := [(2, .int 0), (0, .ref a0), (1, .int x1)]) d_Mo_rate_18 (Nat.le_of_ble_eq_true rfl) rfl ?_
    refine E_ic (v := 1) d_Mo_rate_19 (by decide) ?_
    refine E_isn (ls' := [(3, .int 1), (2, .int 0), (0, .ref a0), (1, .int x1)]) d_Mo_rate_20 (Nat.le_of_ble_eq_true rfl) rfl ?_
    exact E_sub (ks := [2, 3, 1, 0]) rfl <| t_Mo_rate_21 (by omega) _ _ _ _ _ _ _ hq
  · rw [if_pos c] at hq
    refine E_ic (v := (-1)) d_Mo_rate_15 (by decide) ?_
    exact E_rI d_Mo_rate_16 rfl hq
def f_Mo_order (a0 : Nat) (x1 : Int32) (x2 : Int32) (x3 : Int32) (h : PH) : Option (Int32 × PH) :=
  (stI h 9 a0 0 0).bind fun h1 =>
  if x1 = (-1) then
    (stI h1 9 a0 44 0).bind fun h21 =>
    some (0, h21)
  else
    (isO h1 9 a0).bind fun _ =>
    (f_Mo_isIn a0 x1 0 99 h1).bind fun p2 =>
    if p2.1 = 0 then
      some ((-1), p2.2)
    else
      (isO p2.2 9 a0).bind fun _ =>
      (f_Mo_isIn a0 x2 0 9 p2.2).bind fun p4 =>
      if p4.1 = 0 then
        some ((-1), p4.2)
      else
        (isO p4.2 9 a0).bind fun _ =>
        (f_Mo_isIn a0 x3 1 9 p4.2).bind fun p6 =>
        if p6.1 = 0 then
          some ((-1), p6.2)
        else
          (ldI p6.2 9 a0 44).bind fun v8 =>
          if v8 = 8 then
            some ((-1), p6.2)
          else
            (ldR p6.2 9 a0 45).bind fun v9 =>
            (ldI p6.2 9 a0 44).bind fun v10 =>
            (wrA p6.2 v9 v10 x1).bind fun h11 =>
            (ldR h11 9 a0 46).bind fun v12 =>
            (ldI h11 9 a0 44).bind fun v13 =>
            (wrA h11 v12 v13 x2).bind fun h14 =>
            (ldR h14 9 a0 47).bind fun v15 =>
            (ldI h14 9 a0 44).bind fun v16 =>
            (wrA h14 v15 v16 x3).bind fun h17 =>
            (ldI h17 9 a0 44).bind fun v18 =>
            (stI h17 9 a0 44 (v18 + 1)).bind fun h19 =>
            (ldI h19 9 a0 44).bind fun v20 =>
            some (v20, h19)
theorem t_Mo_order {d : Nat} (hd : 1 ≤ d) {a0 : Nat} {x1 : Int32} {x2 : Int32} {x3 : Int32} {h : PH} {r : Int32 × PH} (hq : f_Mo_order a0 x1 x2 x3 h = some r) : E d 0 0 m_Mo_order 0 [(0, .ref a0), (1, .int x1), (2, .int x2), (3, .int x3)] [] h (PI r) := by
  unfold f_Mo_order at hq
  obtain ⟨d, rfl⟩ : ∃ e, d = e + 1 := ⟨d - 1, by omega⟩
  refine E_aln 0 d_Mo_order_0 rfl rfl ?_
  refine E_ic (v := 0) d_Mo_order_1 (by decide) ?_
  obtain ⟨h1, eh1, hq⟩ := bd hq
  refine E_pI d_Mo_order_2 lp_Mo_m_140 rfl eh1 ?_
  refine E_iln 1 d_Mo_order_5 rfl rfl ?_
  refine E_ic (v := (-1)) d_Mo_order_6 (by decide) ?_
  refine E_jne (tgt := 17) d_Mo_order_7 (by decide) (fun c => ?_) (fun c => ?_)
  · rw [if_neg c] at hq
    refine E_aln 0 d_Mo_order_17 rfl rfl ?_
    refine E_iln 1 d_Mo_order_18 rfl rfl ?_
    refine E_ic (v := 0) d_Mo_order_19 (by decide) ?_
    refine E_bi (v := 99) d_Mo_order_20 (by decide) ?_
    obtain ⟨q3, eq3, hq⟩ := bd hq
    obtain ⟨p2, ep2, hq⟩ := bd hq
    refine E_cV3I d_Mo_order_22 ck_Mo_162 rfl rfl eq3 (Nat.le_of_ble_eq_true rfl) (Nat.le_of_ble_eq_true rfl) (t_Mo_isIn (by omega) ep2) ?_
    refine E_zeq (tgt := 59) d_Mo_order_25 (by decide) (fun c => ?_) (fun c => ?_)
    · rw [if_pos c] at hq
      refine E_ic (v := (-1)) d_Mo_order_59 (by decide) ?_
      exact E_rI d_Mo_order_60 rfl hq
    · rw [if_neg c] at hq
      refine E_aln 0 d_Mo_order_28 rfl rfl ?_
      refine E_iln 2 d_Mo_order_29 rfl rfl ?_
      refine E_ic (v := 0) d_Mo_order_30 (by decide) ?_
      refine E_bi (v := 9) d_Mo_order_31 (by decide) ?_
      obtain ⟨q5, eq5, hq⟩ := bd hq
      obtain ⟨p4, ep4, hq⟩ := bd hq
      refine E_cV3I d_Mo_order_33 ck_Mo_162 rfl rfl eq5 (Nat.le_of_ble_eq_true rfl) (Nat.le_of_ble_eq_true rfl) (t_Mo_isIn (by omega) ep4) ?_
      refine E_zeq (tgt := 59) d_Mo_order_36 (by decide) (fun c => ?_) (fun c => ?_)
      · rw [if_pos c] at hq
        refine E_ic (v := (-1)) d_Mo_order_59 (by decide) ?_
        exact E_rI d_Mo_order_60 rfl hq
      · rw [if_neg c] at hq
        refine E_aln 0 d_Mo_order_39 rfl rfl ?_
        refine E_iln 3 d_Mo_order_40 rfl rfl ?_
        refine E_ic (v := 1) d_Mo_order_41 (by decide) ?_
        refine E_bi (v := 9) d_Mo_order_42 (by decide) ?_
        obtain ⟨q7, eq7, hq⟩ := bd hq
        obtain ⟨p6, ep6, hq⟩ := bd hq
        refine E_cV3I d_Mo_order_44 ck_Mo_162 rfl rfl eq7 (Nat.le_of_ble_eq_true rfl) (Nat.le_of_ble_eq_true rfl) (t_Mo_isIn (by omega) ep6) ?_
        refine E_zeq (tgt := 59) d_Mo_order_47 (by decide) (fun c => ?_) (fun c => ?_)
        · rw [if_pos c] at hq
          refine E_ic (v := (-1)) d_Mo_order_59 (by decide) ?_
          exact E_rI d_Mo_order_60 rfl hq
        · rw [if_neg c] at hq
          refine E_aln 0 d_Mo_order_50 rfl rfl ?_
          obtain ⟨v8, ev8, hq⟩ := bd hq
          refine E_gI d_Mo_order_51 lk_Mo_415 rfl ev8 ?_
          refine E_bi (v := 8) d_Mo_order_54 (by decide) ?_
          refine E_jne (tgt := 61) d_Mo_order_56 (by decide) (fun c => ?_) (fun c => ?_)
          · rw [if_neg c] at hq
            refine E_aln 0 d_Mo_order_61 rfl rfl ?_
            obtain ⟨v9, ev9, hq⟩ := bd hq
            refine E_gR d_Mo_order_62 lk_Mo_83 rfl ev9 ?_
            refine E_aln 0 d_Mo_order_65 rfl rfl ?_
            obtain ⟨v10, ev10, hq⟩ := bd hq
            refine E_gI d_Mo_order_66 lk_Mo_415 rfl ev10 ?_
            refine E_iln 1 d_Mo_order_69 rfl rfl ?_
            obtain ⟨h11, eh11, hq⟩ := bd hq
            refine E_wa d_Mo_order_70 eh11 ?_
            refine E_aln 0 d_Mo_order_71 rfl rfl ?_
            obtain ⟨v12, ev12, hq⟩ := bd hq
            refine E_gR d_Mo_order_72 lk_Mo_86 rfl ev12 ?_
            refine E_aln 0 d_Mo_order_75 rfl rfl ?_
            obtain ⟨v13, ev13, hq⟩ := bd hq
            refine E_gI d_Mo_order_76 lk_Mo_415 rfl ev13 ?_
            refine E_iln 2 d_Mo_order_79 rfl rfl ?_
            obtain ⟨h14, eh14, hq⟩ := bd hq
            refine E_wa d_Mo_order_80 eh14 ?_
            refine E_aln 0 d_Mo_order_81 rfl rfl ?_
            obtain ⟨v15, ev15, hq⟩ := bd hq
            refine E_gR d_Mo_order_82 lk_Mo_89 rfl ev15 ?_
            refine E_aln 0 d_Mo_order_85 rfl rfl ?_
            obtain ⟨v16, ev16, hq⟩ := bd hq
            refine E_gI d_Mo_order_86 lk_Mo_415 rfl ev16 ?_
            refine E_iln 3 d_Mo_order_89 rfl rfl ?_
            obtain ⟨h17, eh17, hq⟩ := bd hq
            refine E_wa d_Mo_order_90 eh17 ?_
            refine E_aln 0 d_Mo_order_91 rfl rfl ?_
            refine E_aln 0 d_Mo_order_92 rfl rfl ?_
            obtain ⟨v18, ev18, hq⟩ := bd hq
            refine E_gI d_Mo_order_93 lk_Mo_415 rfl ev18 ?_
            refine E_ic (v := 1) d_Mo_order_96 (by decide) ?_
            refine E_iadd d_Mo_order_97 ?_
            obtain ⟨h19, eh19, hq⟩ := bd hq
            refine E_pI d_Mo_order_98 lp_Mo_m_415 rfl eh19 ?_
            refine E_aln 0 d_Mo_order_101 rfl rfl ?_
            obtain ⟨v20, ev20, hq⟩ := bd hq
            refine E_gI d_Mo_order_102 lk_Mo_415 rfl ev20 ?_
            exact E_rI d_Mo_order_105 rfl hq
          · rw [if_pos c] at hq
            refine E_ic (v := (-1)) d_Mo_order_59 (by decide) ?_
            exact E_rI d_Mo_order_60 rfl hq
  · rw [if_pos c] at hq
    refine E_aln 0 d_Mo_order_10 rfl rfl ?_
    refine E_ic (v := 0) d_Mo_order_11 (by decide) ?_
    obtain ⟨h21, eh21, hq⟩ := bd hq
    refine E_pI d_Mo_order_12 lp_Mo_m_415 rfl eh21 ?_
    refine E_ic (v := 0) d_Mo_order_15 (by decide) ?_
    exact E_rI d_Mo_order_16 rfl hq
def f_Mo_isAhead_46 (h : PH) : Option (Int32 × PH) :=
  rtZ 1 h
theorem t_Mo_isAhead_46 {d : Nat} (hd : 0 ≤ d) {h : PH} {r : Int32 × PH} (hq : f_Mo_isAhead_46 h = some r) : E d 0 0 m_Mo_isAhead 46 [] [] h (PI r) := by
  unfold f_Mo_isAhead_46 at hq
  refine E_ic (v := 1) d_Mo_isAhead_46 (by decide) ?_
  refine E_goto (tgt := 51) d_Mo_isAhead_47 (by decide) ?_
  exact E_rZ d_Mo_isAhead_51 rfl hq
def f_Mo_isAhead (a0 : Nat) (x1 : Int32) (x2 : Int32) (h : PH) : Option (Int32 × PH) :=
  (ldR h 9 a0 47).bind fun v1 =>
  (rdA h v1 x1).bind fun v2 =>
  (ldR h 9 a0 46).bind fun v3 =>
  (rdA h v3 x1).bind fun v4 =>
  (ldR h 9 a0 47).bind fun v5 =>
  (rdA h v5 x2).bind fun v6 =>
  (ldR h 9 a0 46).bind fun v7 =>
  (rdA h v7 x2).bind fun v8 =>
  if (v6 * v8) < (v2 * v4) then
    f_Mo_isAhead_46  h
  else
    if (v2 * v4) = (v6 * v8) then
      if x2 ≤ x1 then
        rtZ 0 h
      else
        f_Mo_isAhead_46  h
    else
      rtZ 0 h
theorem t_Mo_isAhead {d : Nat} (hd : 0 ≤ d) {a0 : Nat} {x1 : Int32} {x2 : Int32} {h : PH} {r : Int32 × PH} (hq : f_Mo_isAhead a0 x1 x2 h = some r) : E d 0 0 m_Mo_isAhead 0 [(0, .ref a0), (1, .int x1), (2, .int x2)] [] h (PI r) := by
  unfold f_Mo_isAhead at hq
  refine E_aln 0 d_Mo_isAhead_0 rfl rfl ?_
  obtain ⟨v1, ev1, hq⟩ := bd hq
  refine E_gR d_Mo_isAhead_1 lk_Mo_89 rfl ev1 ?_
  refine E_iln 1 d_Mo_isAhead_4 rfl rfl ?_
  obtain ⟨v2, ev2, hq⟩ := bd hq
  refine E_ra d_Mo_isAhead_5 ev2 ?_
  refine E_aln 0 d_Mo_isAhead_6 rfl rfl ?_
  obtain ⟨v3, ev3, hq⟩ := bd hq
  refine E_gR d_Mo_isAhead_7 lk_Mo_86 rfl ev3 ?_
  refine E_iln 1 d_Mo_isAhead_10 rfl rfl ?_
  obtain ⟨v4, ev4, hq⟩ := bd hq
  refine E_ra d_Mo_isAhead_11 ev4 ?_
  refine E_imul d_Mo_isAhead_12 ?_
  refine E_isn (ls' := [(3, .int (v2 * v4)), (0, .ref a0), (1, .int x1), (2, .int x2)]) d_Mo_isAhead_13 (Nat.le_of_ble_eq_true rfl) rfl ?_
  refine E_aln 1 d_Mo_isAhead_14 rfl rfl ?_
  obtain ⟨v5, ev5, hq⟩ := bd hq
  refine E_gR d_Mo_isAhead_15 lk_Mo_89 rfl ev5 ?_
  refine E_iln 3 d_Mo_isAhead_18 rfl rfl ?_
  obtain ⟨v6, ev6, hq⟩ := bd hq
  refine E_ra d_Mo_isAhead_19 ev6 ?_
  refine E_aln 1 d_Mo_isAhead_20 rfl rfl ?_
  obtain ⟨v7, ev7, hq⟩ := bd hq
  refine E_gR d_Mo_isAhead_21 lk_Mo_86 rfl ev7 ?_
  refine E_iln 3 d_Mo_isAhead_24 rfl rfl ?_
  obtain ⟨v8, ev8, hq⟩ := bd hq
  refine E_ra d_Mo_isAhead_25 ev8 ?_
  refine E_imul d_Mo_isAhead_26 ?_
  refine E_is (ls' := [(4, .int (v6 * v8)), (3, .int (v2 * v4)), (0, .ref a0), (1, .int x1), (2, .int x2)]) d_Mo_isAhead_27 (Nat.le_of_ble_eq_true rfl) rfl ?_
  refine E_iln 1 d_Mo_isAhead_29 rfl rfl ?_
  refine E_il 0 d_Mo_isAhead_30 rfl ?_
  refine E_jgt (tgt := 46) d_Mo_isAhead_32 (by decide) (fun c => ?_) (fun c => ?_)
  · rw [if_pos c] at hq
    exact E_sub (ks := []) rfl <| t_Mo_isAhead_46 (by omega) hq
  · rw [if_neg c] at hq
    refine E_iln 1 d_Mo_isAhead_35 rfl rfl ?_
    refine E_il 0 d_Mo_isAhead_36 rfl ?_
    refine E_jne (tgt := 50) d_Mo_isAhead_38 (by decide) (fun c => ?_) (fun c => ?_)
    · rw [if_neg c] at hq
      refine E_ic (v := 0) d_Mo_isAhead_50 (by decide) ?_
      exact E_rZ d_Mo_isAhead_51 rfl hq
    · rw [if_pos c] at hq
      refine E_iln 3 d_Mo_isAhead_41 rfl rfl ?_
      refine E_iln 4 d_Mo_isAhead_42 rfl rfl ?_
      refine E_jge (tgt := 50) d_Mo_isAhead_43 (by decide) (fun c => ?_) (fun c => ?_)
      · rw [if_pos c] at hq
        refine E_ic (v := 0) d_Mo_isAhead_50 (by decide) ?_
        exact E_rZ d_Mo_isAhead_51 rfl hq
      · rw [if_neg c] at hq
        exact E_sub (ks := []) rfl <| t_Mo_isAhead_46 (by omega) hq
def f_Mo_ordered_39 (k24 : Nat → Int32 → Int32 → Int32 → Int32 → PH → Option (Int32 × PH)) : Nat → Nat → Int32 → Int32 → Int32 → Int32 → Int32 → Int32 → PH → Option (Int32 × PH)
  | 0, _, _, _, _, _, _, _, _ => none
  | n + 1, a0, x1, x2, x3, x4, x5, x6, h =>
    (ldI h 9 a0 44).bind fun v1 =>
    if v1 ≤ x6 then
      (ldR h 9 a0 47).bind fun v2 =>
      (rdA h v2 x4).bind fun v3 =>
      (ldR h 9 a0 45).bind fun v4 =>
      (rdA h v4 x4).bind fun v5 =>
      (ldR h 9 a0 46).bind fun v6 =>
      (rdA h v6 x4).bind fun v7 =>
      if x5 = 0 then
        k24 a0 x1 (x2 + (v3 * (v5 + (x5 * v7)))) x4 (x4 + 1) h
      else
        k24 a0 x1 (x2 + (v3 * (v5 + (x5 * v7)))) x3 (x4 + 1) h
    else
      if x6 = x4 then
        f_Mo_ordered_39 k24 n a0 x1 x2 x3 x4 x5 (x6 + 1) h
      else
        (isO h 9 a0).bind fun _ =>
        (f_Mo_isAhead a0 x6 x4 h).bind fun p8 =>
        if p8.1 = 0 then
          f_Mo_ordered_39 k24 n a0 x1 x2 x3 x4 x5 (x6 + 1) p8.2
        else
          f_Mo_ordered_39 k24 n a0 x1 x2 x3 x4 (x5 + 1) (x6 + 1) p8.2
theorem t_Mo_ordered_39 {d : Nat} (hd : 1 ≤ d) {k24 : Nat → Int32 → Int32 → Int32 → Int32 → PH → Option (Int32 × PH)} (hk24 : ∀ (a0 : Nat) (x1 : Int32) (x2 : Int32) (x3 : Int32) (x4 : Int32) (h : PH) (r : Int32 × PH), k24 a0 x1 x2 x3 x4 h = some r → E d 0 0 m_Mo_ordered 24 [(0, .ref a0), (1, .int x1), (2, .int x2), (3, .int x3), (4, .int x4)] [] h (PI r)) : ∀ (n : Nat) (a0 : Nat) (x1 : Int32) (x2 : Int32) (x3 : Int32) (x4 : Int32) (x5 : Int32) (x6 : Int32) (h : PH) (r : Int32 × PH), f_Mo_ordered_39 k24 n a0 x1 x2 x3 x4 x5 x6 h = some r → E d 0 0 m_Mo_ordered 39 [(0, .ref a0), (1, .int x1), (2, .int x2), (3, .int x3), (4, .int x4), (5, .int x5), (6, .int x6)] [] h (PI r) := by
  intro n
  induction n with
  | zero => intro a0 x1 x2 x3 x4 x5 x6 h r hq; rw [f_Mo_ordered_39] at hq; cases hq
  | succ n ih =>
    intro a0 x1 x2 x3 x4 x5 x6 h r hq
    rw [f_Mo_ordered_39] at hq
    obtain ⟨d, rfl⟩ : ∃ e, d = e + 1 := ⟨d - 1, by omega⟩
    refine E_il 6 d_Mo_ordered_39 rfl ?_
    refine E_aln 0 d_Mo_ordered_41 rfl rfl ?_
    obtain ⟨v1, ev1, hq⟩ := bd hq
    refine E_gI d_Mo_ordered_42 lk_Mo_415 rfl ev1 ?_
    refine E_jge (tgt := 78) d_Mo_ordered_45 (by decide) (fun c => ?_) (fun c => ?_)
    · rw [if_pos c] at hq
      refine E_iln 2 d_Mo_ordered_78 rfl rfl ?_
      refine E_aln 0 d_Mo_ordered_79 rfl rfl ?_
      obtain ⟨v2, ev2, hq⟩ := bd hq
      refine E_gR d_Mo_ordered_80 lk_Mo_89 rfl ev2 ?_
      refine E_il 4 d_Mo_ordered_83 rfl ?_
      obtain ⟨v3, ev3, hq⟩ := bd hq
      refine E_ra d_Mo_ordered_85 ev3 ?_
      refine E_aln 0 d_Mo_ordered_86 rfl rfl ?_
      obtain ⟨v4, ev4, hq⟩ := bd hq
      refine E_gR d_Mo_ordered_87 lk_Mo_83 rfl ev4 ?_
      refine E_il 4 d_Mo_ordered_90 rfl ?_
      obtain ⟨v5, ev5, hq⟩ := bd hq
      refine E_ra d_Mo_ordered_92 ev5 ?_
      refine E_il 5 d_Mo_ordered_93 rfl ?_
      refine E_aln 0 d_Mo_ordered_95 rfl rfl ?_
      obtain ⟨v6, ev6, hq⟩ := bd hq
      refine E_gR d_Mo_ordered_96 lk_Mo_86 rfl ev6 ?_
      refine E_il 4 d_Mo_ordered_99 rfl ?_
      obtain ⟨v7, ev7, hq⟩ := bd hq
      refine E_ra d_Mo_ordered_101 ev7 ?_
      refine E_imul d_Mo_ordered_102 ?_
      refine E_iadd d_Mo_ordered_103 ?_
      refine E_imul d_Mo_ordered_104 ?_
      refine E_iadd d_Mo_ordered_105 ?_
      refine E_isn (ls' := [(2, .int (x2 + (v3 * (v5 + (x5 * v7))))), (0, .ref a0), (1, .int x1), (3, .int x3), (4, .int x4), (5, .int x5), (6, .int x6)]) d_Mo_ordered_106 (Nat.le_of_ble_eq_true rfl) rfl ?_
      refine E_il 5 d_Mo_ordered_107 rfl ?_
      refine E_zne (tgt := 115) d_Mo_ordered_109 (by decide) (fun c => ?_) (fun c => ?_)
      · rw [if_neg c] at hq
        refine E_inc (v := 1) (ls' := [(4, .int (x4 + 1)), (2, .int (x2 + (v3 * (v5 + (x5 * v7))))), (0, .ref a0), (1, .int x1), (3, .int x3), (5, .int x5), (6, .int x6)]) 4 d_Mo_ordered_115 rfl (Nat.le_of_ble_eq_true rfl) (by decide) rfl ?_
        refine E_goto (tgt := 24) d_Mo_ordered_118 (by decide) ?_
        exact E_sub (ks := [2, 3, 1, 4, 0]) rfl <| hk24 _ _ _ _ _ _ _ hq
      · rw [if_pos c] at hq
        refine E_il 4 d_Mo_ordered_112 rfl ?_
        refine E_isn (ls' := [(3, .int x4), (2, .int (x2 + (v3 * (v5 + (x5 * v7))))), (0, .ref a0), (1, .int x1), (4, .int x4), (5, .int x5), (6, .int x6)]) d_Mo_ordered_114 (Nat.le_of_ble_eq_true rfl) rfl ?_
        refine E_inc (v := 1) (ls' := [(4, .int (x4 + 1)), (3, .int x4), (2, .int (x2 + (v3 * (v5 + (x5 * v7))))), (0, .ref a0), (1, .int x1), (5, .int x5), (6, .int x6)]) 4 d_Mo_ordered_115 rfl (Nat.le_of_ble_eq_true rfl) (by decide) rfl ?_
        refine E_goto (tgt := 24) d_Mo_ordered_118 (by decide) ?_
        exact E_sub (ks := [3, 4, 2, 1, 0]) rfl <| hk24 _ _ _ _ _ _ _ hq
    · rw [if_neg c] at hq
      refine E_il 6 d_Mo_ordered_48 rfl ?_
      refine E_il 4 d_Mo_ordered_50 rfl ?_
      refine E_jeq (tgt := 72) d_Mo_ordered_52 (by decide) (fun c => ?_) (fun c => ?_)
      · rw [if_pos c] at hq
        refine E_inc (v := 1) (ls' := [(6, .int (x6 + 1)), (0, .ref a0), (1, .int x1), (2, .int x2), (3, .int x3), (4, .int x4), (5, .int x5)]) 6 d_Mo_ordered_72 rfl (Nat.le_of_ble_eq_true rfl) (by decide) rfl ?_
        refine E_goto (tgt := 39) d_Mo_ordered_75 (by decide) ?_
        exact E_sub (ks := [1, 2, 3, 4, 5, 6, 0]) rfl <| ih _ _ _ _ _ _ _ _ _ hq
      · rw [if_neg c] at hq
        refine E_aln 0 d_Mo_ordered_55 rfl rfl ?_
        refine E_il 6 d_Mo_ordered_56 rfl ?_
        refine E_il 4 d_Mo_ordered_58 rfl ?_
        obtain ⟨q9, eq9, hq⟩ := bd hq
        obtain ⟨p8, ep8, hq⟩ := bd hq
        refine E_cV2I d_Mo_ordered_60 ck_Mo_418 rfl rfl eq9 (Nat.le_of_ble_eq_true rfl) (Nat.le_of_ble_eq_true rfl) (t_Mo_isAhead (by omega) ep8) ?_
        refine E_zeq (tgt := 72) d_Mo_ordered_63 (by decide) (fun c => ?_) (fun c => ?_)
        · rw [if_pos c] at hq
          refine E_inc (v := 1) (ls' := [(6, .int (x6 + 1)), (0, .ref a0), (1, .int x1), (2, .int x2), (3, .int x3), (4, .int x4), (5, .int x5)]) 6 d_Mo_ordered_72 rfl (Nat.le_of_ble_eq_true rfl) (by decide) rfl ?_
          refine E_goto (tgt := 39) d_Mo_ordered_75 (by decide) ?_
          exact E_sub (ks := [1, 2, 3, 4, 5, 6, 0]) rfl <| ih _ _ _ _ _ _ _ _ _ hq
        · rw [if_neg c] at hq
          refine E_il 5 d_Mo_ordered_66 rfl ?_
          refine E_ic (v := 1) d_Mo_ordered_68 (by decide) ?_
          refine E_iadd d_Mo_ordered_69 ?_
          refine E_is (ls' := [(5, .int (x5 + 1)), (0, .ref a0), (1, .int x1), (2, .int x2), (3, .int x3), (4, .int x4), (6, .int x6)]) d_Mo_ordered_70 (Nat.le_of_ble_eq_true rfl) rfl ?_
          refine E_inc (v := 1) (ls' := [(6, .int (x6 + 1)), (5, .int (x5 + 1)), (0, .ref a0), (1, .int x1), (2, .int x2), (3, .int x3), (4, .int x4)]) 6 d_Mo_ordered_72 rfl (Nat.le_of_ble_eq_true rfl) (by decide) rfl ?_
          refine E_goto (tgt := 39) d_Mo_ordered_75 (by decide) ?_
          exact E_sub (ks := [2, 3, 4, 5, 6, 1, 0]) rfl <| ih _ _ _ _ _ _ _ _ _ hq
def f_Mo_ordered_24 : Nat → Nat → Int32 → Int32 → Int32 → Int32 → PH → Option (Int32 × PH)
  | 0, _, _, _, _, _, _ => none
  | n + 1, a0, x1, x2, x3, x4, h =>
    (ldI h 9 a0 44).bind fun v1 =>
    if v1 ≤ x4 then
      if x1 = 0 then
        some (x2, h)
      else
        some (x3, h)
    else
      f_Mo_ordered_39 (fun a0 x1 x2 x3 x4 h => f_Mo_ordered_24 n a0 x1 x2 x3 x4 h) FU a0 x1 x2 x3 x4 0 0 h
theorem t_Mo_ordered_24 {d : Nat} (hd : 1 ≤ d) : ∀ (n : Nat) (a0 : Nat) (x1 : Int32) (x2 : Int32) (x3 : Int32) (x4 : Int32) (h : PH) (r : Int32 × PH), f_Mo_ordered_24 n a0 x1 x2 x3 x4 h = some r → E d 0 0 m_Mo_ordered 24 [(0, .ref a0), (1, .int x1), (2, .int x2), (3, .int x3), (4, .int x4)] [] h (PI r) := by
  intro n
  induction n with
  | zero => intro a0 x1 x2 x3 x4 h r hq; rw [f_Mo_ordered_24] at hq; cases hq
  | succ n ih =>
    intro a0 x1 x2 x3 x4 h r hq
    rw [f_Mo_ordered_24] at hq
    obtain ⟨d, rfl⟩ : ∃ e, d = e + 1 := ⟨d - 1, by omega⟩
    refine E_il 4 d_Mo_ordered_24 rfl ?_
    refine E_aln 0 d_Mo_ordered_26 rfl rfl ?_
    obtain ⟨v1, ev1, hq⟩ := bd hq
    refine E_gI d_Mo_ordered_27 lk_Mo_415 rfl ev1 ?_
    refine E_jge (tgt := 121) d_Mo_ordered_30 (by decide) (fun c => ?_) (fun c => ?_)
    · rw [if_pos c] at hq
      refine E_iln 1 d_Mo_ordered_121 rfl rfl ?_
      refine E_zne (tgt := 129) d_Mo_ordered_122 (by decide) (fun c => ?_) (fun c => ?_)
      · rw [if_neg c] at hq
        refine E_iln 3 d_Mo_ordered_129 rfl rfl ?_
        exact E_rI d_Mo_ordered_130 rfl hq
      · rw [if_pos c] at hq
        refine E_iln 2 d_Mo_ordered_125 rfl rfl ?_
        refine E_goto (tgt := 130) d_Mo_ordered_126 (by decide) ?_
        exact E_rI d_Mo_ordered_130 rfl hq
    · rw [if_neg c] at hq
      refine E_ic (v := 0) d_Mo_ordered_33 (by decide) ?_
      refine E_is (ls' := [(5, .int 0), (0, .ref a0), (1, .int x1), (2, .int x2), (3, .int x3), (4, .int x4)]) d_Mo_ordered_34 (Nat.le_of_ble_eq_true rfl) rfl ?_
      refine E_ic (v := 0) d_Mo_ordered_36 (by decide) ?_
      refine E_is (ls' := [(6, .int 0), (5, .int 0), (0, .ref a0), (1, .int x1), (2, .int x2), (3, .int x3), (4, .int x4)]) d_Mo_ordered_37 (Nat.le_of_ble_eq_true rfl) rfl ?_
      exact E_sub (ks := [2, 3, 4, 5, 6, 1, 0]) rfl <| t_Mo_ordered_39 (by omega) ih _ _ _ _ _ _ _ _ _ _ hq
def f_Mo_ordered (a0 : Nat) (x1 : Int32) (h : PH) : Option (Int32 × PH) :=
  (stI h 9 a0 0 0).bind fun h1 =>
  (isO h1 9 a0).bind fun _ =>
  (f_Mo_isIn a0 x1 0 1 h1).bind fun p2 =>
  if p2.1 = 0 then
    some ((-1), p2.2)
  else
    f_Mo_ordered_24 FU a0 x1 0 (-1) 0 p2.2
theorem t_Mo_ordered {d : Nat} (hd : 1 ≤ d) {a0 : Nat} {x1 : Int32} {h : PH} {r : Int32 × PH} (hq : f_Mo_ordered a0 x1 h = some r) : E d 0 0 m_Mo_ordered 0 [(0, .ref a0), (1, .int x1)] [] h (PI r) := by
  unfold f_Mo_ordered at hq
  obtain ⟨d, rfl⟩ : ∃ e, d = e + 1 := ⟨d - 1, by omega⟩
  refine E_aln 0 d_Mo_ordered_0 rfl rfl ?_
  refine E_ic (v := 0) d_Mo_ordered_1 (by decide) ?_
  obtain ⟨h1, eh1, hq⟩ := bd hq
  refine E_pI d_Mo_ordered_2 lp_Mo_m_140 rfl eh1 ?_
  refine E_aln 0 d_Mo_ordered_5 rfl rfl ?_
  refine E_iln 1 d_Mo_ordered_6 rfl rfl ?_
  refine E_ic (v := 0) d_Mo_ordered_7 (by decide) ?_
  refine E_ic (v := 1) d_Mo_ordered_8 (by decide) ?_
  obtain ⟨q3, eq3, hq⟩ := bd hq
  obtain ⟨p2, ep2, hq⟩ := bd hq
  refine E_cV3I d_Mo_ordered_9 ck_Mo_162 rfl rfl eq3 (Nat.le_of_ble_eq_true rfl) (Nat.le_of_ble_eq_true rfl) (t_Mo_isIn (by omega) ep2) ?_
  refine E_zne (tgt := 17) d_Mo_ordered_12 (by decide) (fun c => ?_) (fun c => ?_)
  · rw [if_neg c] at hq
    refine E_ic (v := 0) d_Mo_ordered_17 (by decide) ?_
    refine E_isn (ls' := [(2, .int 0), (0, .ref a0), (1, .int x1)]) d_Mo_ordered_18 (Nat.le_of_ble_eq_true rfl) rfl ?_
    refine E_ic (v := (-1)) d_Mo_ordered_19 (by decide) ?_
    refine E_isn (ls' := [(3, .int (-1)), (2, .int 0), (0, .ref a0), (1, .int x1)]) d_Mo_ordered_20 (Nat.le_of_ble_eq_true rfl) rfl ?_
    refine E_ic (v := 0) d_Mo_ordered_21 (by decide) ?_
    refine E_is (ls' := [(4, .int 0), (3, .int (-1)), (2, .int 0), (0, .ref a0), (1, .int x1)]) d_Mo_ordered_22 (Nat.le_of_ble_eq_true rfl) rfl ?_
    exact E_sub (ks := [3, 4, 2, 1, 0]) rfl <| t_Mo_ordered_24 (by omega) _ _ _ _ _ _ _ _ hq
  · rw [if_pos c] at hq
    refine E_ic (v := (-1)) d_Mo_ordered_15 (by decide) ?_
    exact E_rI d_Mo_ordered_16 rfl hq
def f_Mo_hand_17 : Nat → Nat → Int32 → PH → Option (Int32 × PH)
  | 0, _, _, _ => none
  | n + 1, a0, x3, h =>
    if 6 ≤ x3 then
      some (0, h)
    else
      (ldR h 9 a0 49).bind fun v1 =>
      (wrA h v1 x3 0).bind fun h2 =>
      f_Mo_hand_17 n a0 (x3 + 1) h2
theorem t_Mo_hand_17 {d : Nat} (hd : 1 ≤ d) : ∀ (n : Nat) (a0 : Nat) (x3 : Int32) (h : PH) (r : Int32 × PH), f_Mo_hand_17 n a0 x3 h = some r → E d 0 0 m_Mo_hand 17 [(0, .ref a0), (3, .int x3)] [] h (PI r) := by
  intro n
  induction n with
  | zero => intro a0 x3 h r hq; rw [f_Mo_hand_17] at hq; cases hq
  | succ n ih =>
    intro a0 x3 h r hq
    rw [f_Mo_hand_17] at hq
    obtain ⟨d, rfl⟩ : ∃ e, d = e + 1 := ⟨d - 1, by omega⟩
    refine E_iln 1 d_Mo_hand_17 rfl rfl ?_
    refine E_bi (v := 6) d_Mo_hand_18 (by decide) ?_
    refine E_jge (tgt := 36) d_Mo_hand_20 (by decide) (fun c => ?_) (fun c => ?_)
    · rw [if_pos c] at hq
      refine E_ic (v := 0) d_Mo_hand_36 (by decide) ?_
      exact E_rI d_Mo_hand_37 rfl hq
    · rw [if_neg c] at hq
      refine E_aln 0 d_Mo_hand_23 rfl rfl ?_
      obtain ⟨v1, ev1, hq⟩ := bd hq
      refine E_gR d_Mo_hand_24 lk_Mo_92 rfl ev1 ?_
      refine E_iln 1 d_Mo_hand_27 rfl rfl ?_
      refine E_ic (v := 0) d_Mo_hand_28 (by decide) ?_
      obtain ⟨h2, eh2, hq⟩ := bd hq
      refine E_wa d_Mo_hand_29 eh2 ?_
      refine E_inc (v := 1) (ls' := [(3, .int (x3 + 1)), (0, .ref a0)]) 1 d_Mo_hand_30 rfl (Nat.le_of_ble_eq_true rfl) (by decide) rfl ?_
      refine E_goto (tgt := 17) d_Mo_hand_33 (by decide) ?_
      exact E_sub (ks := [1, 0]) rfl <| ih _ _ _ _ hq
def f_Mo_hand (a0 : Nat) (x1 : Int32) (x2 : Int32) (h : PH) : Option (Int32 × PH) :=
  (stI h 9 a0 0 0).bind fun h1 =>
  if x1 = (-1) then
    (stI h1 9 a0 48 0).bind fun h14 =>
    f_Mo_hand_17 FU a0 0 h14
  else
    (isO h1 9 a0).bind fun _ =>
    (f_Mo_isIn a0 x1 0 5 h1).bind fun p2 =>
    if p2.1 = 0 then
      some ((-1), p2.2)
    else
      (isO p2.2 9 a0).bind fun _ =>
      (f_Mo_isIn a0 x2 0 5 p2.2).bind fun p4 =>
      if p4.1 = 0 then
        some ((-1), p4.2)
      else
        (ldI p4.2 9 a0 48).bind fun v6 =>
        if v6 = 16 then
          some ((-1), p4.2)
        else
          (ldR p4.2 9 a0 49).bind fun v7 =>
          (ldR p4.2 9 a0 49).bind fun v8 =>
          (rdA p4.2 v8 x1).bind fun v9 =>
          (wrA p4.2 v7 x1 (v9 ||| (jshl 1 x2))).bind fun h10 =>
          (ldI h10 9 a0 48).bind fun v11 =>
          (stI h10 9 a0 48 (v11 + 1)).bind fun h12 =>
          (ldI h12 9 a0 48).bind fun v13 =>
          some (v13, h12)
theorem t_Mo_hand {d : Nat} (hd : 1 ≤ d) {a0 : Nat} {x1 : Int32} {x2 : Int32} {h : PH} {r : Int32 × PH} (hq : f_Mo_hand a0 x1 x2 h = some r) : E d 0 0 m_Mo_hand 0 [(0, .ref a0), (1, .int x1), (2, .int x2)] [] h (PI r) := by
  unfold f_Mo_hand at hq
  obtain ⟨d, rfl⟩ : ∃ e, d = e + 1 := ⟨d - 1, by omega⟩
  refine E_aln 0 d_Mo_hand_0 rfl rfl ?_
  refine E_ic (v := 0) d_Mo_hand_1 (by decide) ?_
  obtain ⟨h1, eh1, hq⟩ := bd hq
  refine E_pI d_Mo_hand_2 lp_Mo_m_140 rfl eh1 ?_
  refine E_iln 1 d_Mo_hand_5 rfl rfl ?_
  refine E_ic (v := (-1)) d_Mo_hand_6 (by decide) ?_
  refine E_jne (tgt := 38) d_Mo_hand_7 (by decide) (fun c => ?_) (fun c => ?_)
  · rw [if_neg c] at hq
    refine E_aln 0 d_Mo_hand_38 rfl rfl ?_
    refine E_iln 1 d_Mo_hand_39 rfl rfl ?_
    refine E_ic (v := 0) d_Mo_hand_40 (by decide) ?_
    refine E_ic (v := 5) d_Mo_hand_41 (by decide) ?_
    obtain ⟨q3, eq3, hq⟩ := bd hq
    obtain ⟨p2, ep2, hq⟩ := bd hq
    refine E_cV3I d_Mo_hand_42 ck_Mo_162 rfl rfl eq3 (Nat.le_of_ble_eq_true rfl) (Nat.le_of_ble_eq_true rfl) (t_Mo_isIn (by omega) ep2) ?_
    refine E_zeq (tgt := 67) d_Mo_hand_45 (by decide) (fun c => ?_) (fun c => ?_)
    · rw [if_pos c] at hq
      refine E_ic (v := (-1)) d_Mo_hand_67 (by decide) ?_
      exact E_rI d_Mo_hand_68 rfl hq
    · rw [if_neg c] at hq
      refine E_aln 0 d_Mo_hand_48 rfl rfl ?_
      refine E_iln 2 d_Mo_hand_49 rfl rfl ?_
      refine E_ic (v := 0) d_Mo_hand_50 (by decide) ?_
      refine E_ic (v := 5) d_Mo_hand_51 (by decide) ?_
      obtain ⟨q5, eq5, hq⟩ := bd hq
      obtain ⟨p4, ep4, hq⟩ := bd hq
      refine E_cV3I d_Mo_hand_52 ck_Mo_162 rfl rfl eq5 (Nat.le_of_ble_eq_true rfl) (Nat.le_of_ble_eq_true rfl) (t_Mo_isIn (by omega) ep4) ?_
      refine E_zeq (tgt := 67) d_Mo_hand_55 (by decide) (fun c => ?_) (fun c => ?_)
      · rw [if_pos c] at hq
        refine E_ic (v := (-1)) d_Mo_hand_67 (by decide) ?_
        exact E_rI d_Mo_hand_68 rfl hq
      · rw [if_neg c] at hq
        refine E_aln 0 d_Mo_hand_58 rfl rfl ?_
        obtain ⟨v6, ev6, hq⟩ := bd hq
        refine E_gI d_Mo_hand_59 lk_Mo_421 rfl ev6 ?_
        refine E_bi (v := 16) d_Mo_hand_62 (by decide) ?_
        refine E_jne (tgt := 69) d_Mo_hand_64 (by decide) (fun c => ?_) (fun c => ?_)
        · rw [if_neg c] at hq
          refine E_aln 0 d_Mo_hand_69 rfl rfl ?_
          obtain ⟨v7, ev7, hq⟩ := bd hq
          refine E_gR d_Mo_hand_70 lk_Mo_92 rfl ev7 ?_
          refine E_iln 1 d_Mo_hand_73 rfl rfl ?_
          refine E_aln 0 d_Mo_hand_74 rfl rfl ?_
          obtain ⟨v8, ev8, hq⟩ := bd hq
          refine E_gR d_Mo_hand_75 lk_Mo_92 rfl ev8 ?_
          refine E_iln 1 d_Mo_hand_78 rfl rfl ?_
          obtain ⟨v9, ev9, hq⟩ := bd hq
          refine E_ra d_Mo_hand_79 ev9 ?_
          refine E_ic (v := 1) d_Mo_hand_80 (by decide) ?_
          refine E_iln 2 d_Mo_hand_81 rfl rfl ?_
          refine E_ishl d_Mo_hand_82 ?_
          refine E_ior d_Mo_hand_83 ?_
          obtain ⟨h10, eh10, hq⟩ := bd hq
          refine E_wa d_Mo_hand_84 eh10 ?_
          refine E_aln 0 d_Mo_hand_85 rfl rfl ?_
          refine E_aln 0 d_Mo_hand_86 rfl rfl ?_
          obtain ⟨v11, ev11, hq⟩ := bd hq
          refine E_gI d_Mo_hand_87 lk_Mo_421 rfl ev11 ?_
          refine E_ic (v := 1) d_Mo_hand_90 (by decide) ?_
          refine E_iadd d_Mo_hand_91 ?_
          obtain ⟨h12, eh12, hq⟩ := bd hq
          refine E_pI d_Mo_hand_92 lp_Mo_m_421 rfl eh12 ?_
          refine E_aln 0 d_Mo_hand_95 rfl rfl ?_
          obtain ⟨v13, ev13, hq⟩ := bd hq
          refine E_gI d_Mo_hand_96 lk_Mo_421 rfl ev13 ?_
          exact E_rI d_Mo_hand_99 rfl hq
        · rw [if_pos c] at hq
          refine E_ic (v := (-1)) d_Mo_hand_67 (by decide) ?_
          exact E_rI d_Mo_hand_68 rfl hq
  · rw [if_pos c] at hq
    refine E_aln 0 d_Mo_hand_10 rfl rfl ?_
    refine E_ic (v := 0) d_Mo_hand_11 (by decide) ?_
    obtain ⟨h14, eh14, hq⟩ := bd hq
    refine E_pI d_Mo_hand_12 lp_Mo_m_421 rfl eh14 ?_
    refine E_ic (v := 0) d_Mo_hand_15 (by decide) ?_
    refine E_isn (ls' := [(3, .int 0), (0, .ref a0), (1, .int x1), (2, .int x2)]) d_Mo_hand_16 (Nat.le_of_ble_eq_true rfl) rfl ?_
    exact E_sub (ks := [1, 0]) rfl <| t_Mo_hand_17 (by omega) _ _ _ _ _ hq
def f_Mo_goesOne_79 : Nat → Nat → Int32 → PH → Option (PH)
  | 0, _, _, _ => none
  | n + 1, a0, x2, h =>
    if 64 ≤ x2 then
      some h
    else
      (ldR h 9 a0 50).bind fun v1 =>
      (ldR h 9 a0 51).bind fun v2 =>
      (rdA h v2 x2).bind fun v3 =>
      (wrA h v1 x2 v3).bind fun h4 =>
      f_Mo_goesOne_79 n a0 (x2 + 1) h4
theorem t_Mo_goesOne_79 {d : Nat} (hd : 1 ≤ d) : ∀ (n : Nat) (a0 : Nat) (x2 : Int32) (h : PH) (r : PH), f_Mo_goesOne_79 n a0 x2 h = some r → E d 0 0 m_Mo_goesOne 79 [(0, .ref a0), (2, .int x2)] [] h (PV r) := by
  intro n
  induction n with
  | zero => intro a0 x2 h r hq; rw [f_Mo_goesOne_79] at hq; cases hq
  | succ n ih =>
    intro a0 x2 h r hq
    rw [f_Mo_goesOne_79] at hq
    obtain ⟨d, rfl⟩ : ∃ e, d = e + 1 := ⟨d - 1, by omega⟩
    refine E_iln 1 d_Mo_goesOne_79 rfl rfl ?_
    refine E_bi (v := 64) d_Mo_goesOne_80 (by decide) ?_
    refine E_jge (tgt := 103) d_Mo_goesOne_82 (by decide) (fun c => ?_) (fun c => ?_)
    · rw [if_pos c] at hq
      exact E_rV d_Mo_goesOne_103 rfl hq
    · rw [if_neg c] at hq
      refine E_aln 0 d_Mo_goesOne_85 rfl rfl ?_
      obtain ⟨v1, ev1, hq⟩ := bd hq
      refine E_gR d_Mo_goesOne_86 lk_Mo_95 rfl ev1 ?_
      refine E_iln 1 d_Mo_goesOne_89 rfl rfl ?_
      refine E_aln 0 d_Mo_goesOne_90 rfl rfl ?_
      obtain ⟨v2, ev2, hq⟩ := bd hq
      refine E_gR d_Mo_goesOne_91 lk_Mo_98 rfl ev2 ?_
      refine E_iln 1 d_Mo_goesOne_94 rfl rfl ?_
      obtain ⟨v3, ev3, hq⟩ := bd hq
      refine E_ra d_Mo_goesOne_95 ev3 ?_
      obtain ⟨h4, eh4, hq⟩ := bd hq
      refine E_wa d_Mo_goesOne_96 eh4 ?_
      refine E_inc (v := 1) (ls' := [(2, .int (x2 + 1)), (0, .ref a0)]) 1 d_Mo_goesOne_97 rfl (Nat.le_of_ble_eq_true rfl) (by decide) rfl ?_
      refine E_goto (tgt := 79) d_Mo_goesOne_100 (by decide) ?_
      exact E_sub (ks := [1, 0]) rfl <| ih _ _ _ _ hq
def f_Mo_goesOne_18 (k2 : Nat → Int32 → Int32 → PH → Option (PH)) : Nat → Nat → Int32 → Int32 → Int32 → Int32 → PH → Option (PH)
  | 0, _, _, _, _, _, _ => none
  | n + 1, a0, x1, x2, x3, x4, h =>
    if 6 ≤ x4 then
      (ldR h 9 a0 51).bind fun v1 =>
      (wrA h v1 x2 x3).bind fun h2 =>
      k2 a0 x1 (x2 + 1) h2
    else
      (ldR h 9 a0 49).bind fun v3 =>
      (rdA h v3 x1).bind fun v4 =>
      (isO h 9 a0).bind fun _ =>
      (f_Mo_has a0 (v4 &&& x2) x4 h).bind fun p5 =>
      if p5.1 = 0 then
        f_Mo_goesOne_18 k2 n a0 x1 x2 x3 (x4 + 1) p5.2
      else
        (ldR p5.2 9 a0 50).bind fun v7 =>
        (rdA p5.2 v7 (x2 &&& ((jshl 1 x4) ^^^ (-1)))).bind fun v8 =>
        f_Mo_goesOne_18 k2 n a0 x1 x2 (x3 + v8) (x4 + 1) p5.2
theorem t_Mo_goesOne_18 {d : Nat} (hd : 1 ≤ d) {k2 : Nat → Int32 → Int32 → PH → Option (PH)} (hk2 : ∀ (a0 : Nat) (x1 : Int32) (x2 : Int32) (h : PH) (r : PH), k2 a0 x1 x2 h = some r → E d 0 0 m_Mo_goesOne 2 [(0, .ref a0), (1, .int x1), (2, .int x2)] [] h (PV r)) : ∀ (n : Nat) (a0 : Nat) (x1 : Int32) (x2 : Int32) (x3 : Int32) (x4 : Int32) (h : PH) (r : PH), f_Mo_goesOne_18 k2 n a0 x1 x2 x3 x4 h = some r → E d 0 0 m_Mo_goesOne 18 [(0, .ref a0), (1, .int x1), (2, .int x2), (3, .int x3), (4, .int x4)] [] h (PV r) := by
  intro n
  induction n with
  | zero => intro a0 x1 x2 x3 x4 h r hq; rw [f_Mo_goesOne_18] at hq; cases hq
  | succ n ih =>
    intro a0 x1 x2 x3 x4 h r hq
    rw [f_Mo_goesOne_18] at hq
    obtain ⟨d, rfl⟩ : ∃ e, d = e + 1 := ⟨d - 1, by omega⟩
    refine E_il 4 d_Mo_goesOne_18 rfl ?_
    refine E_bi (v := 6) d_Mo_goesOne_20 (by decide) ?_
    refine E_jge (tgt := 64) d_Mo_goesOne_22 (by decide) (fun c => ?_) (fun c => ?_)
    · rw [if_pos c] at hq
      refine E_aln 0 d_Mo_goesOne_64 rfl rfl ?_
      obtain ⟨v1, ev1, hq⟩ := bd hq
      refine E_gR d_Mo_goesOne_65 lk_Mo_98 rfl ev1 ?_
      refine E_iln 2 d_Mo_goesOne_68 rfl rfl ?_
      refine E_iln 3 d_Mo_goesOne_69 rfl rfl ?_
      obtain ⟨h2, eh2, hq⟩ := bd hq
      refine E_wa d_Mo_goesOne_70 eh2 ?_
      refine E_inc (v := 1) (ls' := [(2, .int (x2 + 1)), (0, .ref a0), (1, .int x1), (3, .int x3), (4, .int x4)]) 2 d_Mo_goesOne_71 rfl (Nat.le_of_ble_eq_true rfl) (by decide) rfl ?_
      refine E_goto (tgt := 2) d_Mo_goesOne_74 (by decide) ?_
      exact E_sub (ks := [1, 2, 0]) rfl <| hk2 _ _ _ _ _ hq
    · rw [if_neg c] at hq
      refine E_aln 0 d_Mo_goesOne_25 rfl rfl ?_
      refine E_aln 0 d_Mo_goesOne_26 rfl rfl ?_
      obtain ⟨v3, ev3, hq⟩ := bd hq
      refine E_gR d_Mo_goesOne_27 lk_Mo_92 rfl ev3 ?_
      refine E_iln 1 d_Mo_goesOne_30 rfl rfl ?_
      obtain ⟨v4, ev4, hq⟩ := bd hq
      refine E_ra d_Mo_goesOne_31 ev4 ?_
      refine E_iln 2 d_Mo_goesOne_32 rfl rfl ?_
      refine E_iand d_Mo_goesOne_33 ?_
      refine E_il 4 d_Mo_goesOne_34 rfl ?_
      obtain ⟨q6, eq6, hq⟩ := bd hq
      obtain ⟨p5, ep5, hq⟩ := bd hq
      refine E_cV2I d_Mo_goesOne_36 ck_Mo_158 rfl rfl eq6 (Nat.le_of_ble_eq_true rfl) (Nat.le_of_ble_eq_true rfl) (t_Mo_has (by omega) ep5) ?_
      refine E_zeq (tgt := 58) d_Mo_goesOne_39 (by decide) (fun c => ?_) (fun c => ?_)
      · rw [if_pos c] at hq
        refine E_inc (v := 1) (ls' := [(4, .int (x4 + 1)), (0, .ref a0), (1, .int x1), (2, .int x2), (3, .int x3)]) 4 d_Mo_goesOne_58 rfl (Nat.le_of_ble_eq_true rfl) (by decide) rfl ?_
        refine E_goto (tgt := 18) d_Mo_goesOne_61 (by decide) ?_
        exact E_sub (ks := [1, 2, 3, 4, 0]) rfl <| ih _ _ _ _ _ _ _ hq
      · rw [if_neg c] at hq
        refine E_iln 3 d_Mo_goesOne_42 rfl rfl ?_
        refine E_aln 0 d_Mo_goesOne_43 rfl rfl ?_
        obtain ⟨v7, ev7, hq⟩ := bd hq
        refine E_gR d_Mo_goesOne_44 lk_Mo_95 rfl ev7 ?_
        refine E_iln 2 d_Mo_goesOne_47 rfl rfl ?_
        refine E_ic (v := 1) d_Mo_goesOne_48 (by decide) ?_
        refine E_il 4 d_Mo_goesOne_49 rfl ?_
        refine E_ishl d_Mo_goesOne_51 ?_
        refine E_ic (v := (-1)) d_Mo_goesOne_52 (by decide) ?_
        refine E_ixor d_Mo_goesOne_53 ?_
        refine E_iand d_Mo_goesOne_54 ?_
        obtain ⟨v8, ev8, hq⟩ := bd hq
        refine E_ra d_Mo_goesOne_55 ev8 ?_
        refine E_iadd d_Mo_goesOne_56 ?_
        refine E_isn (ls' := [(3, .int (x3 + v8)), (0, .ref a0), (1, .int x1), (2, .int x2), (4, .int x4)]) d_Mo_goesOne_57 (Nat.le_of_ble_eq_true rfl) rfl ?_
        refine E_inc (v := 1) (ls' := [(4, .int (x4 + 1)), (3, .int (x3 + v8)), (0, .ref a0), (1, .int x1), (2, .int x2)]) 4 d_Mo_goesOne_58 rfl (Nat.le_of_ble_eq_true rfl) (by decide) rfl ?_
        refine E_goto (tgt := 18) d_Mo_goesOne_61 (by decide) ?_
        exact E_sub (ks := [2, 3, 4, 1, 0]) rfl <| ih _ _ _ _ _ _ _ hq
def f_Mo_goesOne_2 : Nat → Nat → Int32 → Int32 → PH → Option (PH)
  | 0, _, _, _, _ => none
  | n + 1, a0, x1, x2, h =>
    if 64 ≤ x2 then
      f_Mo_goesOne_79 FU a0 0 h
    else
      (ldR h 9 a0 50).bind fun v1 =>
      (rdA h v1 x2).bind fun v2 =>
      f_Mo_goesOne_18 (fun a0 x1 x2 h => f_Mo_goesOne_2 n a0 x1 x2 h) FU a0 x1 x2 v2 0 h
theorem t_Mo_goesOne_2 {d : Nat} (hd : 1 ≤ d) : ∀ (n : Nat) (a0 : Nat) (x1 : Int32) (x2 : Int32) (h : PH) (r : PH), f_Mo_goesOne_2 n a0 x1 x2 h = some r → E d 0 0 m_Mo_goesOne 2 [(0, .ref a0), (1, .int x1), (2, .int x2)] [] h (PV r) := by
  intro n
  induction n with
  | zero => intro a0 x1 x2 h r hq; rw [f_Mo_goesOne_2] at hq; cases hq
  | succ n ih =>
    intro a0 x1 x2 h r hq
    rw [f_Mo_goesOne_2] at hq
    obtain ⟨d, rfl⟩ : ∃ e, d = e + 1 := ⟨d - 1, by omega⟩
    refine E_iln 2 d_Mo_goesOne_2 rfl rfl ?_
    refine E_bi (v := 64) d_Mo_goesOne_3 (by decide) ?_
    refine E_jge (tgt := 77) d_Mo_goesOne_5 (by decide) (fun c => ?_) (fun c => ?_)
    · rw [if_pos c] at hq
      refine E_ic (v := 0) d_Mo_goesOne_77 (by decide) ?_
      refine E_isn (ls' := [(2, .int 0), (0, .ref a0), (1, .int x1)]) d_Mo_goesOne_78 (Nat.le_of_ble_eq_true rfl) rfl ?_
      exact E_sub (ks := [1, 0]) rfl <| t_Mo_goesOne_79 (by omega) _ _ _ _ _ hq
    · rw [if_neg c] at hq
      refine E_aln 0 d_Mo_goesOne_8 rfl rfl ?_
      obtain ⟨v1, ev1, hq⟩ := bd hq
      refine E_gR d_Mo_goesOne_9 lk_Mo_95 rfl ev1 ?_
      refine E_iln 2 d_Mo_goesOne_12 rfl rfl ?_
      obtain ⟨v2, ev2, hq⟩ := bd hq
      refine E_ra d_Mo_goesOne_13 ev2 ?_
      refine E_isn (ls' := [(3, .int v2), (0, .ref a0), (1, .int x1), (2, .int x2)]) d_Mo_goesOne_14 (Nat.le_of_ble_eq_true rfl) rfl ?_
      refine E_ic (v := 0) d_Mo_goesOne_15 (by decide) ?_
      refine E_is (ls' := [(4, .int 0), (3, .int v2), (0, .ref a0), (1, .int x1), (2, .int x2)]) d_Mo_goesOne_16 (Nat.le_of_ble_eq_true rfl) rfl ?_
      exact E_sub (ks := [2, 3, 4, 1, 0]) rfl <| t_Mo_goesOne_18 (by omega) ih _ _ _ _ _ _ _ _ hq
def f_Mo_goesOne (a0 : Nat) (x1 : Int32) (h : PH) : Option (PH) :=
  f_Mo_goesOne_2 FU a0 x1 0 h
theorem t_Mo_goesOne {d : Nat} (hd : 1 ≤ d) {a0 : Nat} {x1 : Int32} {h : PH} {r : PH} (hq : f_Mo_goesOne a0 x1 h = some r) : E d 0 0 m_Mo_goesOne 0 [(0, .ref a0), (1, .int x1)] [] h (PV r) := by
  unfold f_Mo_goesOne at hq
  obtain ⟨d, rfl⟩ : ∃ e, d = e + 1 := ⟨d - 1, by omega⟩
  refine E_ic (v := 0) d_Mo_goesOne_0 (by decide) ?_
  refine E_isn (ls' := [(2, .int 0), (0, .ref a0), (1, .int x1)]) d_Mo_goesOne_1 (Nat.le_of_ble_eq_true rfl) rfl ?_
  exact E_sub (ks := [1, 2, 0]) rfl <| t_Mo_goesOne_2 (by omega) _ _ _ _ _ _ hq
def f_Mo_hands_131 (k72 : Nat → Int32 → Int32 → Int32 → Int32 → PH → Option (Int32 × PH)) (a0 : Nat) (x1 : Int32) (x4 : Int32) (s0 : Int32) (h : PH) : Option (Int32 × PH) :=
  (isO h 9 a0).bind fun _ =>
  (f_Mo_onesOf a0 x4 h).bind fun p1 =>
  k72 a0 x1 p1.1 s0 (x4 + 1) p1.2
theorem t_Mo_hands_131 {d : Nat} (hd : 2 ≤ d) {k72 : Nat → Int32 → Int32 → Int32 → Int32 → PH → Option (Int32 × PH)} (hk72 : ∀ (a0 : Nat) (x1 : Int32) (x2 : Int32) (x3 : Int32) (x4 : Int32) (h : PH) (r : Int32 × PH), k72 a0 x1 x2 x3 x4 h = some r → E d 0 0 m_Mo_hands 72 [(0, .ref a0), (1, .int x1), (2, .int x2), (3, .int x3), (4, .int x4)] [] h (PI r)) {a0 : Nat} {x1 : Int32} {x4 : Int32} {s0 : Int32} {h : PH} {r : Int32 × PH} (hq : f_Mo_hands_131 k72 a0 x1 x4 s0 h = some r) : E d 0 0 m_Mo_hands 131 [(0, .ref a0), (1, .int x1), (4, .int x4)] [.int s0] h (PI r) := by
  unfold f_Mo_hands_131 at hq
  obtain ⟨d, rfl⟩ : ∃ e, d = e + 1 := ⟨d - 1, by omega⟩
  refine E_isn (ls' := [(3, .int s0), (0, .ref a0), (1, .int x1), (4, .int x4)]) d_Mo_hands_131 (Nat.le_of_ble_eq_true rfl) rfl ?_
  refine E_aln 1 d_Mo_hands_132 rfl rfl ?_
  refine E_il 3 d_Mo_hands_133 rfl ?_
  obtain ⟨q2, eq2, hq⟩ := bd hq
  obtain ⟨p1, ep1, hq⟩ := bd hq
  refine E_cV1I d_Mo_hands_135 ck_Mo_345 rfl rfl eq2 (Nat.le_of_ble_eq_true rfl) (Nat.le_of_ble_eq_true rfl) (t_Mo_onesOf (by omega) ep1) ?_
  refine E_isn (ls' := [(2, .int p1.1), (3, .int s0), (0, .ref a0), (1, .int x1), (4, .int x4)]) d_Mo_hands_138 (Nat.le_of_ble_eq_true rfl) rfl ?_
  refine E_inc (v := 1) (ls' := [(4, .int (x4 + 1)), (2, .int p1.1), (3, .int s0), (0, .ref a0), (1, .int x1)]) 4 d_Mo_hands_139 rfl (Nat.le_of_ble_eq_true rfl) (by decide) rfl ?_
  refine E_goto (tgt := 72) d_Mo_hands_142 (by decide) ?_
  exact E_sub (ks := [3, 4, 1, 2, 0]) rfl <| hk72 _ _ _ _ _ _ _ hq
def f_Mo_hands_72 : Nat → Nat → Int32 → Int32 → Int32 → Int32 → PH → Option (Int32 × PH)
  | 0, _, _, _, _, _, _ => none
  | n + 1, a0, x1, x2, x3, x4, h =>
    if 64 ≤ x4 then
      if x1 = 0 then
        some (x2, h)
      else
        some (x3, h)
    else
      (ldR h 9 a0 50).bind fun v1 =>
      (rdA h v1 x4).bind fun v2 =>
      if v2 = 0 then
        f_Mo_hands_72 n a0 x1 x2 x3 (x4 + 1) h
      else
        (isO h 9 a0).bind fun _ =>
        (f_Mo_onesOf a0 x4 h).bind fun p3 =>
        if x2 ≤ p3.1 then
          (isO p3.2 9 a0).bind fun _ =>
          (f_Mo_onesOf a0 x4 p3.2).bind fun p5 =>
          if p5.1 ≤ x2 then
            (ldR p5.2 9 a0 50).bind fun v7 =>
            (rdA p5.2 v7 x4).bind fun v8 =>
            f_Mo_hands_131 (fun a0 x1 x2 x3 x4 h => f_Mo_hands_72 n a0 x1 x2 x3 x4 h) a0 x1 x4 (x3 + v8) p5.2
          else
            (ldR p5.2 9 a0 50).bind fun v9 =>
            (rdA p5.2 v9 x4).bind fun v10 =>
            f_Mo_hands_131 (fun a0 x1 x2 x3 x4 h => f_Mo_hands_72 n a0 x1 x2 x3 x4 h) a0 x1 x4 v10 p5.2
        else
          f_Mo_hands_72 n a0 x1 x2 x3 (x4 + 1) p3.2
theorem t_Mo_hands_72 {d : Nat} (hd : 2 ≤ d) : ∀ (n : Nat) (a0 : Nat) (x1 : Int32) (x2 : Int32) (x3 : Int32) (x4 : Int32) (h : PH) (r : Int32 × PH), f_Mo_hands_72 n a0 x1 x2 x3 x4 h = some r → E d 0 0 m_Mo_hands 72 [(0, .ref a0), (1, .int x1), (2, .int x2), (3, .int x3), (4, .int x4)] [] h (PI r) := by
  intro n
  induction n with
  | zero => intro a0 x1 x2 x3 x4 h r hq; rw [f_Mo_hands_72] at hq; cases hq
  | succ n ih =>
    intro a0 x1 x2 x3 x4 h r hq
    rw [f_Mo_hands_72] at hq
    obtain ⟨d, rfl⟩ : ∃ e, d = e + 1 := ⟨d - 1, by omega⟩
    refine E_il 4 d_Mo_hands_72 rfl ?_
    refine E_bi (v := 64) d_Mo_hands_74 (by decide) ?_
    refine E_jge (tgt := 145) d_Mo_hands_76 (by decide) (fun c => ?_) (fun c => ?_)
    · rw [if_pos c] at hq
      refine E_iln 1 d_Mo_hands_145 rfl rfl ?_
      refine E_zne (tgt := 153) d_Mo_hands_146 (by decide) (fun c => ?_) (fun c => ?_)
      · rw [if_neg c] at hq
        refine E_iln 3 d_Mo_hands_153 rfl rfl ?_
        exact E_rI d_Mo_hands_154 rfl hq
      · rw [if_pos c] at hq
        refine E_iln 2 d_Mo_hands_149 rfl rfl ?_
        refine E_goto (tgt := 154) d_Mo_hands_150 (by decide) ?_
        exact E_rI d_Mo_hands_154 rfl hq
    · rw [if_neg c] at hq
      refine E_aln 0 d_Mo_hands_79 rfl rfl ?_
      obtain ⟨v1, ev1, hq⟩ := bd hq
      refine E_gR d_Mo_hands_80 lk_Mo_95 rfl ev1 ?_
      refine E_il 4 d_Mo_hands_83 rfl ?_
      obtain ⟨v2, ev2, hq⟩ := bd hq
      refine E_ra d_Mo_hands_85 ev2 ?_
      refine E_zeq (tgt := 139) d_Mo_hands_86 (by decide) (fun c => ?_) (fun c => ?_)
      · rw [if_pos c] at hq
        refine E_inc (v := 1) (ls' := [(4, .int (x4 + 1)), (0, .ref a0), (1, .int x1), (2, .int x2), (3, .int x3)]) 4 d_Mo_hands_139 rfl (Nat.le_of_ble_eq_true rfl) (by decide) rfl ?_
        refine E_goto (tgt := 72) d_Mo_hands_142 (by decide) ?_
        exact E_sub (ks := [1, 2, 3, 4, 0]) rfl <| ih _ _ _ _ _ _ _ hq
      · rw [if_neg c] at hq
        refine E_aln 0 d_Mo_hands_89 rfl rfl ?_
        refine E_il 4 d_Mo_hands_90 rfl ?_
        obtain ⟨q4, eq4, hq⟩ := bd hq
        obtain ⟨p3, ep3, hq⟩ := bd hq
        refine E_cV1I d_Mo_hands_92 ck_Mo_345 rfl rfl eq4 (Nat.le_of_ble_eq_true rfl) (Nat.le_of_ble_eq_true rfl) (t_Mo_onesOf (by omega) ep3) ?_
        refine E_iln 2 d_Mo_hands_95 rfl rfl ?_
        refine E_jge (tgt := 102) d_Mo_hands_96 (by decide) (fun c => ?_) (fun c => ?_)
        · rw [if_pos c] at hq
          refine E_aln 0 d_Mo_hands_102 rfl rfl ?_
          refine E_il 4 d_Mo_hands_103 rfl ?_
          obtain ⟨q6, eq6, hq⟩ := bd hq
          obtain ⟨p5, ep5, hq⟩ := bd hq
          refine E_cV1I d_Mo_hands_105 ck_Mo_345 rfl rfl eq6 (Nat.le_of_ble_eq_true rfl) (Nat.le_of_ble_eq_true rfl) (t_Mo_onesOf (by omega) ep5) ?_
          refine E_iln 2 d_Mo_hands_108 rfl rfl ?_
          refine E_jle (tgt := 122) d_Mo_hands_109 (by decide) (fun c => ?_) (fun c => ?_)
          · rw [if_pos c] at hq
            refine E_iln 3 d_Mo_hands_122 rfl rfl ?_
            refine E_aln 0 d_Mo_hands_123 rfl rfl ?_
            obtain ⟨v7, ev7, hq⟩ := bd hq
            refine E_gR d_Mo_hands_124 lk_Mo_95 rfl ev7 ?_
            refine E_il 4 d_Mo_hands_127 rfl ?_
            obtain ⟨v8, ev8, hq⟩ := bd hq
            refine E_ra d_Mo_hands_129 ev8 ?_
            refine E_iadd d_Mo_hands_130 ?_
            exact E_sub (ks := [0, 1, 4]) rfl <| t_Mo_hands_131 (by omega) ih hq
          · rw [if_neg c] at hq
            refine E_aln 0 d_Mo_hands_112 rfl rfl ?_
            obtain ⟨v9, ev9, hq⟩ := bd hq
            refine E_gR d_Mo_hands_113 lk_Mo_95 rfl ev9 ?_
            refine E_il 4 d_Mo_hands_116 rfl ?_
            obtain ⟨v10, ev10, hq⟩ := bd hq
            refine E_ra d_Mo_hands_118 ev10 ?_
            refine E_goto (tgt := 131) d_Mo_hands_119 (by decide) ?_
            exact E_sub (ks := [0, 1, 4]) rfl <| t_Mo_hands_131 (by omega) ih hq
        · rw [if_neg c] at hq
          refine E_goto (tgt := 139) d_Mo_hands_99 (by decide) ?_
          refine E_inc (v := 1) (ls' := [(4, .int (x4 + 1)), (0, .ref a0), (1, .int x1), (2, .int x2), (3, .int x3)]) 4 d_Mo_hands_139 rfl (Nat.le_of_ble_eq_true rfl) (by decide) rfl ?_
          refine E_goto (tgt := 72) d_Mo_hands_142 (by decide) ?_
          exact E_sub (ks := [1, 2, 3, 4, 0]) rfl <| ih _ _ _ _ _ _ _ hq
def f_Mo_hands_48 : Nat → Nat → Int32 → Int32 → PH → Option (Int32 × PH)
  | 0, _, _, _, _ => none
  | n + 1, a0, x1, x2, h =>
    if 6 ≤ x2 then
      f_Mo_hands_72 FU a0 x1 0 0 0 h
    else
      (isO h 9 a0).bind fun _ =>
      (f_Mo_goesOne a0 x2 h).bind fun h1 =>
      f_Mo_hands_48 n a0 x1 (x2 + 1) h1
theorem t_Mo_hands_48 {d : Nat} (hd : 2 ≤ d) : ∀ (n : Nat) (a0 : Nat) (x1 : Int32) (x2 : Int32) (h : PH) (r : Int32 × PH), f_Mo_hands_48 n a0 x1 x2 h = some r → E d 0 0 m_Mo_hands 48 [(0, .ref a0), (1, .int x1), (2, .int x2)] [] h (PI r) := by
  intro n
  induction n with
  | zero => intro a0 x1 x2 h r hq; rw [f_Mo_hands_48] at hq; cases hq
  | succ n ih =>
    intro a0 x1 x2 h r hq
    rw [f_Mo_hands_48] at hq
    obtain ⟨d, rfl⟩ : ∃ e, d = e + 1 := ⟨d - 1, by omega⟩
    refine E_iln 2 d_Mo_hands_48 rfl rfl ?_
    refine E_bi (v := 6) d_Mo_hands_49 (by decide) ?_
    refine E_jge (tgt := 65) d_Mo_hands_51 (by decide) (fun c => ?_) (fun c => ?_)
    · rw [if_pos c] at hq
      refine E_ic (v := 0) d_Mo_hands_65 (by decide) ?_
      refine E_isn (ls' := [(2, .int 0), (0, .ref a0), (1, .int x1)]) d_Mo_hands_66 (Nat.le_of_ble_eq_true rfl) rfl ?_
      refine E_ic (v := 0) d_Mo_hands_67 (by decide) ?_
      refine E_isn (ls' := [(3, .int 0), (2, .int 0), (0, .ref a0), (1, .int x1)]) d_Mo_hands_68 (Nat.le_of_ble_eq_true rfl) rfl ?_
      refine E_ic (v := 0) d_Mo_hands_69 (by decide) ?_
      refine E_is (ls' := [(4, .int 0), (3, .int 0), (2, .int 0), (0, .ref a0), (1, .int x1)]) d_Mo_hands_70 (Nat.le_of_ble_eq_true rfl) rfl ?_
      exact E_sub (ks := [3, 4, 2, 1, 0]) rfl <| t_Mo_hands_72 (by omega) _ _ _ _ _ _ _ _ hq
    · rw [if_neg c] at hq
      refine E_aln 0 d_Mo_hands_54 rfl rfl ?_
      refine E_iln 2 d_Mo_hands_55 rfl rfl ?_
      obtain ⟨q2, eq2, hq⟩ := bd hq
      obtain ⟨h1, eh1, hq⟩ := bd hq
      refine E_cV1V d_Mo_hands_56 ck_Mo_424 rfl rfl eq2 (Nat.le_of_ble_eq_true rfl) (Nat.le_of_ble_eq_true rfl) (t_Mo_goesOne (by omega) eh1) ?_
      refine E_inc (v := 1) (ls' := [(2, .int (x2 + 1)), (0, .ref a0), (1, .int x1)]) 2 d_Mo_hands_59 rfl (Nat.le_of_ble_eq_true rfl) (by decide) rfl ?_
      refine E_goto (tgt := 48) d_Mo_hands_62 (by decide) ?_
      exact E_sub (ks := [1, 2, 0]) rfl <| ih _ _ _ _ _ hq
def f_Mo_hands_39 (k19 : Nat → Int32 → Int32 → PH → Option (Int32 × PH)) (a0 : Nat) (x1 : Int32) (x2 : Int32) (s0 : Int32) (s1 : Int32) (s2 : Nat) (h : PH) : Option (Int32 × PH) :=
  (wrA h s2 s1 s0).bind fun h1 =>
  k19 a0 x1 (x2 + 1) h1
theorem t_Mo_hands_39 {d : Nat} (hd : 2 ≤ d) {k19 : Nat → Int32 → Int32 → PH → Option (Int32 × PH)} (hk19 : ∀ (a0 : Nat) (x1 : Int32) (x2 : Int32) (h : PH) (r : Int32 × PH), k19 a0 x1 x2 h = some r → E d 0 0 m_Mo_hands 19 [(0, .ref a0), (1, .int x1), (2, .int x2)] [] h (PI r)) {a0 : Nat} {x1 : Int32} {x2 : Int32} {s0 : Int32} {s1 : Int32} {s2 : Nat} {h : PH} {r : Int32 × PH} (hq : f_Mo_hands_39 k19 a0 x1 x2 s0 s1 s2 h = some r) : E d 0 0 m_Mo_hands 39 [(0, .ref a0), (1, .int x1), (2, .int x2)] [.int s0, .int s1, .ref s2] h (PI r) := by
  unfold f_Mo_hands_39 at hq
  obtain ⟨d, rfl⟩ : ∃ e, d = e + 1 := ⟨d - 1, by omega⟩
  obtain ⟨h1, eh1, hq⟩ := bd hq
  refine E_wa d_Mo_hands_39 eh1 ?_
  refine E_inc (v := 1) (ls' := [(2, .int (x2 + 1)), (0, .ref a0), (1, .int x1)]) 2 d_Mo_hands_40 rfl (Nat.le_of_ble_eq_true rfl) (by decide) rfl ?_
  refine E_goto (tgt := 19) d_Mo_hands_43 (by decide) ?_
  exact E_sub (ks := [1, 2, 0]) rfl <| hk19 _ _ _ _ _ hq
def f_Mo_hands_19 : Nat → Nat → Int32 → Int32 → PH → Option (Int32 × PH)
  | 0, _, _, _, _ => none
  | n + 1, a0, x1, x2, h =>
    if 64 ≤ x2 then
      f_Mo_hands_48 FU a0 x1 0 h
    else
      (ldR h 9 a0 50).bind fun v1 =>
      if x2 = 0 then
        f_Mo_hands_39 (fun a0 x1 x2 h => f_Mo_hands_19 n a0 x1 x2 h) a0 x1 x2 1 x2 v1 h
      else
        f_Mo_hands_39 (fun a0 x1 x2 h => f_Mo_hands_19 n a0 x1 x2 h) a0 x1 x2 0 x2 v1 h
theorem t_Mo_hands_19 {d : Nat} (hd : 2 ≤ d) : ∀ (n : Nat) (a0 : Nat) (x1 : Int32) (x2 : Int32) (h : PH) (r : Int32 × PH), f_Mo_hands_19 n a0 x1 x2 h = some r → E d 0 0 m_Mo_hands 19 [(0, .ref a0), (1, .int x1), (2, .int x2)] [] h (PI r) := by
  intro n
  induction n with
  | zero => intro a0 x1 x2 h r hq; rw [f_Mo_hands_19] at hq; cases hq
  | succ n ih =>
    intro a0 x1 x2 h r hq
    rw [f_Mo_hands_19] at hq
    obtain ⟨d, rfl⟩ : ∃ e, d = e + 1 := ⟨d - 1, by omega⟩
    refine E_iln 2 d_Mo_hands_19 rfl rfl ?_
    refine E_bi (v := 64) d_Mo_hands_20 (by decide) ?_
    refine E_jge (tgt := 46) d_Mo_hands_22 (by decide) (fun c => ?_) (fun c => ?_)
    · rw [if_pos c] at hq
      refine E_ic (v := 0) d_Mo_hands_46 (by decide) ?_
      refine E_isn (ls' := [(2, .int 0), (0, .ref a0), (1, .int x1)]) d_Mo_hands_47 (Nat.le_of_ble_eq_true rfl) rfl ?_
      exact E_sub (ks := [1, 2, 0]) rfl <| t_Mo_hands_48 (by omega) _ _ _ _ _ _ hq
    · rw [if_neg c] at hq
      refine E_aln 0 d_Mo_hands_25 rfl rfl ?_
      obtain ⟨v1, ev1, hq⟩ := bd hq
      refine E_gR d_Mo_hands_26 lk_Mo_95 rfl ev1 ?_
      refine E_iln 2 d_Mo_hands_29 rfl rfl ?_
      refine E_iln 2 d_Mo_hands_30 rfl rfl ?_
      refine E_zne (tgt := 38) d_Mo_hands_31 (by decide) (fun c => ?_) (fun c => ?_)
      · rw [if_neg c] at hq
        refine E_ic (v := 0) d_Mo_hands_38 (by decide) ?_
        exact t_Mo_hands_39 (by omega) ih hq
      · rw [if_pos c] at hq
        refine E_ic (v := 1) d_Mo_hands_34 (by decide) ?_
        refine E_goto (tgt := 39) d_Mo_hands_35 (by decide) ?_
        exact t_Mo_hands_39 (by omega) ih hq
def f_Mo_hands (a0 : Nat) (x1 : Int32) (h : PH) : Option (Int32 × PH) :=
  (stI h 9 a0 0 0).bind fun h1 =>
  (isO h1 9 a0).bind fun _ =>
  (f_Mo_isIn a0 x1 0 1 h1).bind fun p2 =>
  if p2.1 = 0 then
    some ((-1), p2.2)
  else
    f_Mo_hands_19 FU a0 x1 0 p2.2
theorem t_Mo_hands {d : Nat} (hd : 2 ≤ d) {a0 : Nat} {x1 : Int32} {h : PH} {r : Int32 × PH} (hq : f_Mo_hands a0 x1 h = some r) : E d 0 0 m_Mo_hands 0 [(0, .ref a0), (1, .int x1)] [] h (PI r) := by
  unfold f_Mo_hands at hq
  obtain ⟨d, rfl⟩ : ∃ e, d = e + 1 := ⟨d - 1, by omega⟩
  refine E_aln 0 d_Mo_hands_0 rfl rfl ?_
  refine E_ic (v := 0) d_Mo_hands_1 (by decide) ?_
  obtain ⟨h1, eh1, hq⟩ := bd hq
  refine E_pI d_Mo_hands_2 lp_Mo_m_140 rfl eh1 ?_
  refine E_aln 0 d_Mo_hands_5 rfl rfl ?_
  refine E_iln 1 d_Mo_hands_6 rfl rfl ?_
  refine E_ic (v := 0) d_Mo_hands_7 (by decide) ?_
  refine E_ic (v := 1) d_Mo_hands_8 (by decide) ?_
  obtain ⟨q3, eq3, hq⟩ := bd hq
  obtain ⟨p2, ep2, hq⟩ := bd hq
  refine E_cV3I d_Mo_hands_9 ck_Mo_162 rfl rfl eq3 (Nat.le_of_ble_eq_true rfl) (Nat.le_of_ble_eq_true rfl) (t_Mo_isIn (by omega) ep2) ?_
  refine E_zne (tgt := 17) d_Mo_hands_12 (by decide) (fun c => ?_) (fun c => ?_)
  · rw [if_neg c] at hq
    refine E_ic (v := 0) d_Mo_hands_17 (by decide) ?_
    refine E_isn (ls' := [(2, .int 0), (0, .ref a0), (1, .int x1)]) d_Mo_hands_18 (Nat.le_of_ble_eq_true rfl) rfl ?_
    exact E_sub (ks := [1, 2, 0]) rfl <| t_Mo_hands_19 (by omega) _ _ _ _ _ _ hq
  · rw [if_pos c] at hq
    refine E_ic (v := (-1)) d_Mo_hands_15 (by decide) ?_
    exact E_rI d_Mo_hands_16 rfl hq
def f_Mo_weight (a0 : Nat) (x1 : Int32) (h : PH) : Option (Int32 × PH) :=
  (stI h 9 a0 0 0).bind fun h1 =>
  if x1 = (-1) then
    (stI h1 9 a0 52 0).bind fun h11 =>
    some (0, h11)
  else
    (isO h1 9 a0).bind fun _ =>
    (f_Mo_isIn a0 x1 1 40 h1).bind fun p2 =>
    if p2.1 = 0 then
      some ((-1), p2.2)
    else
      (ldI p2.2 9 a0 52).bind fun v4 =>
      if v4 = 8 then
        some ((-1), p2.2)
      else
        (ldR p2.2 9 a0 53).bind fun v5 =>
        (ldI p2.2 9 a0 52).bind fun v6 =>
        (wrA p2.2 v5 v6 x1).bind fun h7 =>
        (ldI h7 9 a0 52).bind fun v8 =>
        (stI h7 9 a0 52 (v8 + 1)).bind fun h9 =>
        (ldI h9 9 a0 52).bind fun v10 =>
        some (v10, h9)
theorem t_Mo_weight {d : Nat} (hd : 1 ≤ d) {a0 : Nat} {x1 : Int32} {h : PH} {r : Int32 × PH} (hq : f_Mo_weight a0 x1 h = some r) : E d 0 0 m_Mo_weight 0 [(0, .ref a0), (1, .int x1)] [] h (PI r) := by
  unfold f_Mo_weight at hq
  obtain ⟨d, rfl⟩ : ∃ e, d = e + 1 := ⟨d - 1, by omega⟩
  refine E_aln 0 d_Mo_weight_0 rfl rfl ?_
  refine E_ic (v := 0) d_Mo_weight_1 (by decide) ?_
  obtain ⟨h1, eh1, hq⟩ := bd hq
  refine E_pI d_Mo_weight_2 lp_Mo_m_140 rfl eh1 ?_
  refine E_iln 1 d_Mo_weight_5 rfl rfl ?_
  refine E_ic (v := (-1)) d_Mo_weight_6 (by decide) ?_
  refine E_jne (tgt := 17) d_Mo_weight_7 (by decide) (fun c => ?_) (fun c => ?_)
  · rw [if_neg c] at hq
    refine E_aln 0 d_Mo_weight_17 rfl rfl ?_
    refine E_iln 1 d_Mo_weight_18 rfl rfl ?_
    refine E_ic (v := 1) d_Mo_weight_19 (by decide) ?_
    refine E_bi (v := 40) d_Mo_weight_20 (by decide) ?_
    obtain ⟨q3, eq3, hq⟩ := bd hq
    obtain ⟨p2, ep2, hq⟩ := bd hq
    refine E_cV3I d_Mo_weight_22 ck_Mo_162 rfl rfl eq3 (Nat.le_of_ble_eq_true rfl) (Nat.le_of_ble_eq_true rfl) (t_Mo_isIn (by omega) ep2) ?_
    refine E_zeq (tgt := 37) d_Mo_weight_25 (by decide) (fun c => ?_) (fun c => ?_)
    · rw [if_pos c] at hq
      refine E_ic (v := (-1)) d_Mo_weight_37 (by decide) ?_
      exact E_rI d_Mo_weight_38 rfl hq
    · rw [if_neg c] at hq
      refine E_aln 0 d_Mo_weight_28 rfl rfl ?_
      obtain ⟨v4, ev4, hq⟩ := bd hq
      refine E_gI d_Mo_weight_29 lk_Mo_427 rfl ev4 ?_
      refine E_bi (v := 8) d_Mo_weight_32 (by decide) ?_
      refine E_jne (tgt := 39) d_Mo_weight_34 (by decide) (fun c => ?_) (fun c => ?_)
      · rw [if_neg c] at hq
        refine E_aln 0 d_Mo_weight_39 rfl rfl ?_
        obtain ⟨v5, ev5, hq⟩ := bd hq
        refine E_gR d_Mo_weight_40 lk_Mo_101 rfl ev5 ?_
        refine E_aln 0 d_Mo_weight_43 rfl rfl ?_
        obtain ⟨v6, ev6, hq⟩ := bd hq
        refine E_gI d_Mo_weight_44 lk_Mo_427 rfl ev6 ?_
        refine E_iln 1 d_Mo_weight_47 rfl rfl ?_
        obtain ⟨h7, eh7, hq⟩ := bd hq
        refine E_wa d_Mo_weight_48 eh7 ?_
        refine E_aln 0 d_Mo_weight_49 rfl rfl ?_
        refine E_aln 0 d_Mo_weight_50 rfl rfl ?_
        obtain ⟨v8, ev8, hq⟩ := bd hq
        refine E_gI d_Mo_weight_51 lk_Mo_427 rfl ev8 ?_
        refine E_ic (v := 1) d_Mo_weight_54 (by decide) ?_
        refine E_iadd d_Mo_weight_55 ?_
        obtain ⟨h9, eh9, hq⟩ := bd hq
        refine E_pI d_Mo_weight_56 lp_Mo_m_427 rfl eh9 ?_
        refine E_aln 0 d_Mo_weight_59 rfl rfl ?_
        obtain ⟨v10, ev10, hq⟩ := bd hq
        refine E_gI d_Mo_weight_60 lk_Mo_427 rfl ev10 ?_
        exact E_rI d_Mo_weight_63 rfl hq
      · rw [if_pos c] at hq
        refine E_ic (v := (-1)) d_Mo_weight_37 (by decide) ?_
        exact E_rI d_Mo_weight_38 rfl hq
  · rw [if_pos c] at hq
    refine E_aln 0 d_Mo_weight_10 rfl rfl ?_
    refine E_ic (v := 0) d_Mo_weight_11 (by decide) ?_
    obtain ⟨h11, eh11, hq⟩ := bd hq
    refine E_pI d_Mo_weight_12 lp_Mo_m_427 rfl eh11 ?_
    refine E_ic (v := 0) d_Mo_weight_15 (by decide) ?_
    exact E_rI d_Mo_weight_16 rfl hq
def f_Mo_withWeight_38 (x2 : Int32) (x4 : Int32) (h : PH) : Option (Int32 × PH) :=
  some (((100 * (x4 + 1)) + x2), h)
theorem t_Mo_withWeight_38 {d : Nat} (hd : 0 ≤ d) {x2 : Int32} {x4 : Int32} {h : PH} {r : Int32 × PH} (hq : f_Mo_withWeight_38 x2 x4 h = some r) : E d 0 0 m_Mo_withWeight 38 [(2, .int x2), (4, .int x4)] [] h (PI r) := by
  unfold f_Mo_withWeight_38 at hq
  refine E_bi (v := 100) d_Mo_withWeight_38 (by decide) ?_
  refine E_il 1 d_Mo_withWeight_40 rfl ?_
  refine E_ic (v := 1) d_Mo_withWeight_42 (by decide) ?_
  refine E_iadd d_Mo_withWeight_43 ?_
  refine E_imul d_Mo_withWeight_44 ?_
  refine E_iln 0 d_Mo_withWeight_45 rfl rfl ?_
  refine E_iadd d_Mo_withWeight_46 ?_
  exact E_rI d_Mo_withWeight_47 rfl hq
def f_Mo_withWeight (a0 : Nat) (x1 : Int32) (x2 : Int32) (x3 : Int32) (h : PH) : Option (Int32 × PH) :=
  (dvI x1 100).bind fun v1 =>
  (rmI x1 100).bind fun v2 =>
  if v1 ≤ 0 then
    f_Mo_withWeight_38 x2 v1 h
  else
    if x3 < (v2 + x2) then
      f_Mo_withWeight_38 x2 v1 h
    else
      some ((((100 * v1) + v2) + x2), h)
theorem t_Mo_withWeight {d : Nat} (hd : 0 ≤ d) {a0 : Nat} {x1 : Int32} {x2 : Int32} {x3 : Int32} {h : PH} {r : Int32 × PH} (hq : f_Mo_withWeight a0 x1 x2 x3 h = some r) : E d 0 0 m_Mo_withWeight 0 [(0, .ref a0), (1, .int x1), (2, .int x2), (3, .int x3)] [] h (PI r) := by
  unfold f_Mo_withWeight at hq
  refine E_iln 1 d_Mo_withWeight_0 rfl rfl ?_
  refine E_bi (v := 100) d_Mo_withWeight_1 (by decide) ?_
  obtain ⟨v1, ev1, hq⟩ := bd hq
  refine E_dv d_Mo_withWeight_3 ev1 ?_
  refine E_is (ls' := [(4, .int v1), (0, .ref a0), (1, .int x1), (2, .int x2), (3, .int x3)]) d_Mo_withWeight_4 (Nat.le_of_ble_eq_true rfl) rfl ?_
  refine E_iln 2 d_Mo_withWeight_6 rfl rfl ?_
  refine E_bi (v := 100) d_Mo_withWeight_7 (by decide) ?_
  obtain ⟨v2, ev2, hq⟩ := bd hq
  refine E_rm d_Mo_withWeight_9 ev2 ?_
  refine E_is (ls' := [(5, .int v2), (4, .int v1), (0, .ref a0), (1, .int x1), (2, .int x2), (3, .int x3)]) d_Mo_withWeight_10 (Nat.le_of_ble_eq_true rfl) rfl ?_
  refine E_il 1 d_Mo_withWeight_12 rfl ?_
  refine E_zle (tgt := 38) d_Mo_withWeight_14 (by decide) (fun c => ?_) (fun c => ?_)
  · rw [if_pos c] at hq
    exact E_sub (ks := [4, 1]) rfl <| t_Mo_withWeight_38 (by omega) hq
  · rw [if_neg c] at hq
    refine E_il 0 d_Mo_withWeight_17 rfl ?_
    refine E_iln 4 d_Mo_withWeight_19 rfl rfl ?_
    refine E_iadd d_Mo_withWeight_20 ?_
    refine E_iln 5 d_Mo_withWeight_21 rfl rfl ?_
    refine E_jgt (tgt := 38) d_Mo_withWeight_22 (by decide) (fun c => ?_) (fun c => ?_)
    · rw [if_pos c] at hq
      exact E_sub (ks := [4, 1]) rfl <| t_Mo_withWeight_38 (by omega) hq
    · rw [if_neg c] at hq
      refine E_bi (v := 100) d_Mo_withWeight_25 (by decide) ?_
      refine E_il 1 d_Mo_withWeight_27 rfl ?_
      refine E_imul d_Mo_withWeight_29 ?_
      refine E_il 0 d_Mo_withWeight_30 rfl ?_
      refine E_iadd d_Mo_withWeight_32 ?_
      refine E_iln 4 d_Mo_withWeight_33 rfl rfl ?_
      refine E_iadd d_Mo_withWeight_34 ?_
      refine E_goto (tgt := 47) d_Mo_withWeight_35 (by decide) ?_
      exact E_rI d_Mo_withWeight_47 rfl hq
def f_Mo_fewestCrates_58 (k37 : Nat → Int32 → Int32 → PH → Option (Int32 × PH)) : Nat → Nat → Int32 → Int32 → Int32 → PH → Option (Int32 × PH)
  | 0, _, _, _, _, _ => none
  | n + 1, a0, x1, x2, x3, h =>
    (ldI h 9 a0 52).bind fun v1 =>
    if v1 ≤ x3 then
      k37 a0 x1 (x2 + 1) h
    else
      (isO h 9 a0).bind fun _ =>
      (f_Mo_has a0 x2 x3 h).bind fun p2 =>
      if p2.1 = 0 then
        f_Mo_fewestCrates_58 k37 n a0 x1 x2 (x3 + 1) p2.2
      else
        (ldR p2.2 9 a0 54).bind fun v4 =>
        (ldR p2.2 9 a0 54).bind fun v5 =>
        (rdA p2.2 v5 x2).bind fun v6 =>
        (ldR p2.2 9 a0 54).bind fun v7 =>
        (rdA p2.2 v7 (x2 &&& ((jshl 1 x3) ^^^ (-1)))).bind fun v8 =>
        (ldR p2.2 9 a0 53).bind fun v9 =>
        (rdA p2.2 v9 x3).bind fun v10 =>
        (isO p2.2 9 a0).bind fun _ =>
        (f_Mo_withWeight a0 v8 v10 x1 p2.2).bind fun p11 =>
        (isO p11.2 9 a0).bind fun _ =>
        (f_Mo_lesser a0 v6 p11.1 p11.2).bind fun p13 =>
        (wrA p13.2 v4 x2 p13.1).bind fun h15 =>
        f_Mo_fewestCrates_58 k37 n a0 x1 x2 (x3 + 1) h15
theorem t_Mo_fewestCrates_58 {d : Nat} (hd : 1 ≤ d) {k37 : Nat → Int32 → Int32 → PH → Option (Int32 × PH)} (hk37 : ∀ (a0 : Nat) (x1 : Int32) (x2 : Int32) (h : PH) (r : Int32 × PH), k37 a0 x1 x2 h = some r → E d 0 0 m_Mo_fewestCrates 37 [(0, .ref a0), (1, .int x1), (2, .int x2)] [] h (PI r)) : ∀ (n : Nat) (a0 : Nat) (x1 : Int32) (x2 : Int32) (x3 : Int32) (h : PH) (r : Int32 × PH), f_Mo_fewestCrates_58 k37 n a0 x1 x2 x3 h = some r → E d 0 0 m_Mo_fewestCrates 58 [(0, .ref a0), (1, .int x1), (2, .int x2), (3, .int x3)] [] h (PI r) := by
  intro n
  induction n with
  | zero => intro a0 x1 x2 x3 h r hq; rw [f_Mo_fewestCrates_58] at hq; cases hq
  | succ n ih =>
    intro a0 x1 x2 x3 h r hq
    rw [f_Mo_fewestCrates_58] at hq
    obtain ⟨d, rfl⟩ : ∃ e, d = e + 1 := ⟨d - 1, by omega⟩
    refine E_iln 3 d_Mo_fewestCrates_58 rfl rfl ?_
    refine E_aln 0 d_Mo_fewestCrates_59 rfl rfl ?_
    obtain ⟨v1, ev1, hq⟩ := bd hq
    refine E_gI d_Mo_fewestCrates_60 lk_Mo_427 rfl ev1 ?_
    refine E_jge (tgt := 120) d_Mo_fewestCrates_63 (by decide) (fun c => ?_) (fun c => ?_)
    · rw [if_pos c] at hq
      refine E_inc (v := 1) (ls' := [(2, .int (x2 + 1)), (0, .ref a0), (1, .int x1), (3, .int x3)]) 2 d_Mo_fewestCrates_120 rfl (Nat.le_of_ble_eq_true rfl) (by decide) rfl ?_
      refine E_goto (tgt := 37) d_Mo_fewestCrates_123 (by decide) ?_
      exact E_sub (ks := [1, 2, 0]) rfl <| hk37 _ _ _ _ _ hq
    · rw [if_neg c] at hq
      refine E_aln 0 d_Mo_fewestCrates_66 rfl rfl ?_
      refine E_iln 2 d_Mo_fewestCrates_67 rfl rfl ?_
      refine E_iln 3 d_Mo_fewestCrates_68 rfl rfl ?_
      obtain ⟨q3, eq3, hq⟩ := bd hq
      obtain ⟨p2, ep2, hq⟩ := bd hq
      refine E_cV2I d_Mo_fewestCrates_69 ck_Mo_158 rfl rfl eq3 (Nat.le_of_ble_eq_true rfl) (Nat.le_of_ble_eq_true rfl) (t_Mo_has (by omega) ep2) ?_
      refine E_zeq (tgt := 114) d_Mo_fewestCrates_72 (by decide) (fun c => ?_) (fun c => ?_)
      · rw [if_pos c] at hq
        refine E_inc (v := 1) (ls' := [(3, .int (x3 + 1)), (0, .ref a0), (1, .int x1), (2, .int x2)]) 3 d_Mo_fewestCrates_114 rfl (Nat.le_of_ble_eq_true rfl) (by decide) rfl ?_
        refine E_goto (tgt := 58) d_Mo_fewestCrates_117 (by decide) ?_
        exact E_sub (ks := [1, 2, 3, 0]) rfl <| ih _ _ _ _ _ _ hq
      · rw [if_neg c] at hq
        refine E_aln 0 d_Mo_fewestCrates_75 rfl rfl ?_
        obtain ⟨v4, ev4, hq⟩ := bd hq
        refine E_gR d_Mo_fewestCrates_76 lk_Mo_104 rfl ev4 ?_
        refine E_iln 2 d_Mo_fewestCrates_79 rfl rfl ?_
        refine E_aln 0 d_Mo_fewestCrates_80 rfl rfl ?_
        refine E_aln 0 d_Mo_fewestCrates_81 rfl rfl ?_
        obtain ⟨v5, ev5, hq⟩ := bd hq
        refine E_gR d_Mo_fewestCrates_82 lk_Mo_104 rfl ev5 ?_
        refine E_iln 2 d_Mo_fewestCrates_85 rfl rfl ?_
        obtain ⟨v6, ev6, hq⟩ := bd hq
        refine E_ra d_Mo_fewestCrates_86 ev6 ?_
        refine E_aln 0 d_Mo_fewestCrates_87 rfl rfl ?_
        refine E_aln 0 d_Mo_fewestCrates_88 rfl rfl ?_
        obtain ⟨v7, ev7, hq⟩ := bd hq
        refine E_gR d_Mo_fewestCrates_89 lk_Mo_104 rfl ev7 ?_
        refine E_iln 2 d_Mo_fewestCrates_92 rfl rfl ?_
        refine E_ic (v := 1) d_Mo_fewestCrates_93 (by decide) ?_
        refine E_iln 3 d_Mo_fewestCrates_94 rfl rfl ?_
        refine E_ishl d_Mo_fewestCrates_95 ?_
        refine E_ic (v := (-1)) d_Mo_fewestCrates_96 (by decide) ?_
        refine E_ixor d_Mo_fewestCrates_97 ?_
        refine E_iand d_Mo_fewestCrates_98 ?_
        obtain ⟨v8, ev8, hq⟩ := bd hq
        refine E_ra d_Mo_fewestCrates_99 ev8 ?_
        refine E_aln 0 d_Mo_fewestCrates_100 rfl rfl ?_
        obtain ⟨v9, ev9, hq⟩ := bd hq
        refine E_gR d_Mo_fewestCrates_101 lk_Mo_101 rfl ev9 ?_
        refine E_iln 3 d_Mo_fewestCrates_104 rfl rfl ?_
        obtain ⟨v10, ev10, hq⟩ := bd hq
        refine E_ra d_Mo_fewestCrates_105 ev10 ?_
        refine E_iln 1 d_Mo_fewestCrates_106 rfl rfl ?_
        obtain ⟨q12, eq12, hq⟩ := bd hq
        obtain ⟨p11, ep11, hq⟩ := bd hq
        refine E_cV3I d_Mo_fewestCrates_107 ck_Mo_431 rfl rfl eq12 (Nat.le_of_ble_eq_true rfl) (Nat.le_of_ble_eq_true rfl) (t_Mo_withWeight (by omega) ep11) ?_
        obtain ⟨q14, eq14, hq⟩ := bd hq
        obtain ⟨p13, ep13, hq⟩ := bd hq
        refine E_cV2I d_Mo_fewestCrates_110 ck_Mo_369 rfl rfl eq14 (Nat.le_of_ble_eq_true rfl) (Nat.le_of_ble_eq_true rfl) (t_Mo_lesser (by omega) ep13) ?_
        obtain ⟨h15, eh15, hq⟩ := bd hq
        refine E_wa d_Mo_fewestCrates_113 eh15 ?_
        refine E_inc (v := 1) (ls' := [(3, .int (x3 + 1)), (0, .ref a0), (1, .int x1), (2, .int x2)]) 3 d_Mo_fewestCrates_114 rfl (Nat.le_of_ble_eq_true rfl) (by decide) rfl ?_
        refine E_goto (tgt := 58) d_Mo_fewestCrates_117 (by decide) ?_
        exact E_sub (ks := [1, 2, 3, 0]) rfl <| ih _ _ _ _ _ _ hq
def f_Mo_fewestCrates_37 : Nat → Nat → Int32 → Int32 → PH → Option (Int32 × PH)
  | 0, _, _, _, _ => none
  | n + 1, a0, x1, x2, h =>
    (ldI h 9 a0 52).bind fun v1 =>
    if (jshl 1 v1) ≤ x2 then
      (ldR h 9 a0 54).bind fun v2 =>
      (ldI h 9 a0 52).bind fun v3 =>
      (rdA h v2 ((jshl 1 v3) - 1)).bind fun v4 =>
      (dvI v4 100).bind fun v5 =>
      some (v5, h)
    else
      (ldR h 9 a0 54).bind fun v6 =>
      (wrA h v6 x2 100000000).bind fun h7 =>
      f_Mo_fewestCrates_58 (fun a0 x1 x2 h => f_Mo_fewestCrates_37 n a0 x1 x2 h) FU a0 x1 x2 0 h7
theorem t_Mo_fewestCrates_37 {d : Nat} (hd : 1 ≤ d) : ∀ (n : Nat) (a0 : Nat) (x1 : Int32) (x2 : Int32) (h : PH) (r : Int32 × PH), f_Mo_fewestCrates_37 n a0 x1 x2 h = some r → E d 0 0 m_Mo_fewestCrates 37 [(0, .ref a0), (1, .int x1), (2, .int x2)] [] h (PI r) := by
  intro n
  induction n with
  | zero => intro a0 x1 x2 h r hq; rw [f_Mo_fewestCrates_37] at hq; cases hq
  | succ n ih =>
    intro a0 x1 x2 h r hq
    rw [f_Mo_fewestCrates_37] at hq
    obtain ⟨d, rfl⟩ : ∃ e, d = e + 1 := ⟨d - 1, by omega⟩
    refine E_iln 2 d_Mo_fewestCrates_37 rfl rfl ?_
    refine E_ic (v := 1) d_Mo_fewestCrates_38 (by decide) ?_
    refine E_aln 0 d_Mo_fewestCrates_39 rfl rfl ?_
    obtain ⟨v1, ev1, hq⟩ := bd hq
    refine E_gI d_Mo_fewestCrates_40 lk_Mo_427 rfl ev1 ?_
    refine E_ishl d_Mo_fewestCrates_43 ?_
    refine E_jge (tgt := 126) d_Mo_fewestCrates_44 (by decide) (fun c => ?_) (fun c => ?_)
    · rw [if_pos c] at hq
      refine E_aln 0 d_Mo_fewestCrates_126 rfl rfl ?_
      obtain ⟨v2, ev2, hq⟩ := bd hq
      refine E_gR d_Mo_fewestCrates_127 lk_Mo_104 rfl ev2 ?_
      refine E_ic (v := 1) d_Mo_fewestCrates_130 (by decide) ?_
      refine E_aln 0 d_Mo_fewestCrates_131 rfl rfl ?_
      obtain ⟨v3, ev3, hq⟩ := bd hq
      refine E_gI d_Mo_fewestCrates_132 lk_Mo_427 rfl ev3 ?_
      refine E_ishl d_Mo_fewestCrates_135 ?_
      refine E_ic (v := 1) d_Mo_fewestCrates_136 (by decide) ?_
      refine E_isub d_Mo_fewestCrates_137 ?_
      obtain ⟨v4, ev4, hq⟩ := bd hq
      refine E_ra d_Mo_fewestCrates_138 ev4 ?_
      refine E_bi (v := 100) d_Mo_fewestCrates_139 (by decide) ?_
      obtain ⟨v5, ev5, hq⟩ := bd hq
      refine E_dv d_Mo_fewestCrates_141 ev5 ?_
      exact E_rI d_Mo_fewestCrates_142 rfl hq
    · rw [if_neg c] at hq
      refine E_aln 0 d_Mo_fewestCrates_47 rfl rfl ?_
      obtain ⟨v6, ev6, hq⟩ := bd hq
      refine E_gR d_Mo_fewestCrates_48 lk_Mo_104 rfl ev6 ?_
      refine E_iln 2 d_Mo_fewestCrates_51 rfl rfl ?_
      refine E_ldcw d_Mo_fewestCrates_52 kc_Mo_430 ?_
      obtain ⟨h7, eh7, hq⟩ := bd hq
      refine E_wa d_Mo_fewestCrates_55 eh7 ?_
      refine E_ic (v := 0) d_Mo_fewestCrates_56 (by decide) ?_
      refine E_isn (ls' := [(3, .int 0), (0, .ref a0), (1, .int x1), (2, .int x2)]) d_Mo_fewestCrates_57 (Nat.le_of_ble_eq_true rfl) rfl ?_
      exact E_sub (ks := [1, 2, 3, 0]) rfl <| t_Mo_fewestCrates_58 (by omega) ih _ _ _ _ _ _ _ hq
def f_Mo_fewestCrates_2 : Nat → Nat → Int32 → Int32 → PH → Option (Int32 × PH)
  | 0, _, _, _, _ => none
  | n + 1, a0, x1, x2, h =>
    (ldI h 9 a0 52).bind fun v1 =>
    if v1 ≤ x2 then
      (ldR h 9 a0 54).bind fun v2 =>
      (wrA h v2 0 0).bind fun h3 =>
      f_Mo_fewestCrates_37 FU a0 x1 1 h3
    else
      (ldR h 9 a0 53).bind fun v4 =>
      (rdA h v4 x2).bind fun v5 =>
      if v5 ≤ x1 then
        f_Mo_fewestCrates_2 n a0 x1 (x2 + 1) h
      else
        some ((-1), h)
theorem t_Mo_fewestCrates_2 {d : Nat} (hd : 1 ≤ d) : ∀ (n : Nat) (a0 : Nat) (x1 : Int32) (x2 : Int32) (h : PH) (r : Int32 × PH), f_Mo_fewestCrates_2 n a0 x1 x2 h = some r → E d 0 0 m_Mo_fewestCrates 2 [(0, .ref a0), (1, .int x1), (2, .int x2)] [] h (PI r) := by
  intro n
  induction n with
  | zero => intro a0 x1 x2 h r hq; rw [f_Mo_fewestCrates_2] at hq; cases hq
  | succ n ih =>
    intro a0 x1 x2 h r hq
    rw [f_Mo_fewestCrates_2] at hq
    obtain ⟨d, rfl⟩ : ∃ e, d = e + 1 := ⟨d - 1, by omega⟩
    refine E_iln 2 d_Mo_fewestCrates_2 rfl rfl ?_
    refine E_aln 0 d_Mo_fewestCrates_3 rfl rfl ?_
    obtain ⟨v1, ev1, hq⟩ := bd hq
    refine E_gI d_Mo_fewestCrates_4 lk_Mo_427 rfl ev1 ?_
    refine E_jge (tgt := 28) d_Mo_fewestCrates_7 (by decide) (fun c => ?_) (fun c => ?_)
    · rw [if_pos c] at hq
      refine E_aln 0 d_Mo_fewestCrates_28 rfl rfl ?_
      obtain ⟨v2, ev2, hq⟩ := bd hq
      refine E_gR d_Mo_fewestCrates_29 lk_Mo_104 rfl ev2 ?_
      refine E_ic (v := 0) d_Mo_fewestCrates_32 (by decide) ?_
      refine E_ic (v := 0) d_Mo_fewestCrates_33 (by decide) ?_
      obtain ⟨h3, eh3, hq⟩ := bd hq
      refine E_wa d_Mo_fewestCrates_34 eh3 ?_
      refine E_ic (v := 1) d_Mo_fewestCrates_35 (by decide) ?_
      refine E_isn (ls' := [(2, .int 1), (0, .ref a0), (1, .int x1)]) d_Mo_fewestCrates_36 (Nat.le_of_ble_eq_true rfl) rfl ?_
      exact E_sub (ks := [1, 2, 0]) rfl <| t_Mo_fewestCrates_37 (by omega) _ _ _ _ _ _ hq
    · rw [if_neg c] at hq
      refine E_aln 0 d_Mo_fewestCrates_10 rfl rfl ?_
      obtain ⟨v4, ev4, hq⟩ := bd hq
      refine E_gR d_Mo_fewestCrates_11 lk_Mo_101 rfl ev4 ?_
      refine E_iln 2 d_Mo_fewestCrates_14 rfl rfl ?_
      obtain ⟨v5, ev5, hq⟩ := bd hq
      refine E_ra d_Mo_fewestCrates_15 ev5 ?_
      refine E_iln 1 d_Mo_fewestCrates_16 rfl rfl ?_
      refine E_jle (tgt := 22) d_Mo_fewestCrates_17 (by decide) (fun c => ?_) (fun c => ?_)
      · rw [if_pos c] at hq
        refine E_inc (v := 1) (ls' := [(2, .int (x2 + 1)), (0, .ref a0), (1, .int x1)]) 2 d_Mo_fewestCrates_22 rfl (Nat.le_of_ble_eq_true rfl) (by decide) rfl ?_
        refine E_goto (tgt := 2) d_Mo_fewestCrates_25 (by decide) ?_
        exact E_sub (ks := [1, 2, 0]) rfl <| ih _ _ _ _ _ hq
      · rw [if_neg c] at hq
        refine E_ic (v := (-1)) d_Mo_fewestCrates_20 (by decide) ?_
        exact E_rI d_Mo_fewestCrates_21 rfl hq
def f_Mo_fewestCrates (a0 : Nat) (x1 : Int32) (h : PH) : Option (Int32 × PH) :=
  f_Mo_fewestCrates_2 FU a0 x1 0 h
theorem t_Mo_fewestCrates {d : Nat} (hd : 1 ≤ d) {a0 : Nat} {x1 : Int32} {h : PH} {r : Int32 × PH} (hq : f_Mo_fewestCrates a0 x1 h = some r) : E d 0 0 m_Mo_fewestCrates 0 [(0, .ref a0), (1, .int x1)] [] h (PI r) := by
  unfold f_Mo_fewestCrates at hq
  obtain ⟨d, rfl⟩ : ∃ e, d = e + 1 := ⟨d - 1, by omega⟩
  refine E_ic (v := 0) d_Mo_fewestCrates_0 (by decide) ?_
  refine E_isn (ls' := [(2, .int 0), (0, .ref a0), (1, .int x1)]) d_Mo_fewestCrates_1 (Nat.le_of_ble_eq_true rfl) rfl ?_
  exact E_sub (ks := [1, 2, 0]) rfl <| t_Mo_fewestCrates_2 (by omega) _ _ _ _ _ _ hq
def f_Mo_mostInOne_20 (k4 : Nat → Int32 → Int32 → Int32 → PH → Option (Int32 × PH)) : Nat → Nat → Int32 → Int32 → Int32 → Int32 → Int32 → PH → Option (Int32 × PH)
  | 0, _, _, _, _, _, _, _ => none
  | n + 1, a0, x1, x2, x3, x4, x5, h =>
    (ldI h 9 a0 52).bind fun v1 =>
    if v1 ≤ x5 then
      if x1 < x4 then
        k4 a0 x1 x2 (x3 + 1) h
      else
        (isO h 9 a0).bind fun _ =>
        (f_Mo_onesOf a0 x3 h).bind fun p2 =>
        (isO p2.2 9 a0).bind fun _ =>
        (f_Mo_greater a0 x2 p2.1 p2.2).bind fun p4 =>
        k4 a0 x1 p4.1 (x3 + 1) p4.2
    else
      (isO h 9 a0).bind fun _ =>
      (f_Mo_has a0 x3 x5 h).bind fun p6 =>
      if p6.1 = 0 then
        f_Mo_mostInOne_20 k4 n a0 x1 x2 x3 x4 (x5 + 1) p6.2
      else
        (ldR p6.2 9 a0 53).bind fun v8 =>
        (rdA p6.2 v8 x5).bind fun v9 =>
        f_Mo_mostInOne_20 k4 n a0 x1 x2 x3 (x4 + v9) (x5 + 1) p6.2
theorem t_Mo_mostInOne_20 {d : Nat} (hd : 1 ≤ d) {k4 : Nat → Int32 → Int32 → Int32 → PH → Option (Int32 × PH)} (hk4 : ∀ (a0 : Nat) (x1 : Int32) (x2 : Int32) (x3 : Int32) (h : PH) (r : Int32 × PH), k4 a0 x1 x2 x3 h = some r → E d 0 0 m_Mo_mostInOne 4 [(0, .ref a0), (1, .int x1), (2, .int x2), (3, .int x3)] [] h (PI r)) : ∀ (n : Nat) (a0 : Nat) (x1 : Int32) (x2 : Int32) (x3 : Int32) (x4 : Int32) (x5 : Int32) (h : PH) (r : Int32 × PH), f_Mo_mostInOne_20 k4 n a0 x1 x2 x3 x4 x5 h = some r → E d 0 0 m_Mo_mostInOne 20 [(0, .ref a0), (1, .int x1), (2, .int x2), (3, .int x3), (4, .int x4), (5, .int x5)] [] h (PI r) := by
  intro n
  induction n with
  | zero => intro a0 x1 x2 x3 x4 x5 h r hq; rw [f_Mo_mostInOne_20] at hq; cases hq
  | succ n ih =>
    intro a0 x1 x2 x3 x4 x5 h r hq
    rw [f_Mo_mostInOne_20] at hq
    obtain ⟨d, rfl⟩ : ∃ e, d = e + 1 := ⟨d - 1, by omega⟩
    refine E_il 5 d_Mo_mostInOne_20 rfl ?_
    refine E_aln 0 d_Mo_mostInOne_22 rfl rfl ?_
    obtain ⟨v1, ev1, hq⟩ := bd hq
    refine E_gI d_Mo_mostInOne_23 lk_Mo_427 rfl ev1 ?_
    refine E_jge (tgt := 57) d_Mo_mostInOne_26 (by decide) (fun c => ?_) (fun c => ?_)
    · rw [if_pos c] at hq
      refine E_il 4 d_Mo_mostInOne_57 rfl ?_
      refine E_iln 1 d_Mo_mostInOne_59 rfl rfl ?_
      refine E_jgt (tgt := 74) d_Mo_mostInOne_60 (by decide) (fun c => ?_) (fun c => ?_)
      · rw [if_pos c] at hq
        refine E_inc (v := 1) (ls' := [(3, .int (x3 + 1)), (0, .ref a0), (1, .int x1), (2, .int x2), (4, .int x4), (5, .int x5)]) 3 d_Mo_mostInOne_74 rfl (Nat.le_of_ble_eq_true rfl) (by decide) rfl ?_
        refine E_goto (tgt := 4) d_Mo_mostInOne_77 (by decide) ?_
        exact E_sub (ks := [1, 2, 3, 0]) rfl <| hk4 _ _ _ _ _ _ hq
      · rw [if_neg c] at hq
        refine E_aln 0 d_Mo_mostInOne_63 rfl rfl ?_
        refine E_iln 2 d_Mo_mostInOne_64 rfl rfl ?_
        refine E_aln 0 d_Mo_mostInOne_65 rfl rfl ?_
        refine E_iln 3 d_Mo_mostInOne_66 rfl rfl ?_
        obtain ⟨q3, eq3, hq⟩ := bd hq
        obtain ⟨p2, ep2, hq⟩ := bd hq
        refine E_cV1I d_Mo_mostInOne_67 ck_Mo_345 rfl rfl eq3 (Nat.le_of_ble_eq_true rfl) (Nat.le_of_ble_eq_true rfl) (t_Mo_onesOf (by omega) ep2) ?_
        obtain ⟨q5, eq5, hq⟩ := bd hq
        obtain ⟨p4, ep4, hq⟩ := bd hq
        refine E_cV2I d_Mo_mostInOne_70 ck_Mo_339 rfl rfl eq5 (Nat.le_of_ble_eq_true rfl) (Nat.le_of_ble_eq_true rfl) (t_Mo_greater (by omega) ep4) ?_
        refine E_isn (ls' := [(2, .int p4.1), (0, .ref a0), (1, .int x1), (3, .int x3), (4, .int x4), (5, .int x5)]) d_Mo_mostInOne_73 (Nat.le_of_ble_eq_true rfl) rfl ?_
        refine E_inc (v := 1) (ls' := [(3, .int (x3 + 1)), (2, .int p4.1), (0, .ref a0), (1, .int x1), (4, .int x4), (5, .int x5)]) 3 d_Mo_mostInOne_74 rfl (Nat.le_of_ble_eq_true rfl) (by decide) rfl ?_
        refine E_goto (tgt := 4) d_Mo_mostInOne_77 (by decide) ?_
        exact E_sub (ks := [2, 3, 1, 0]) rfl <| hk4 _ _ _ _ _ _ hq
    · rw [if_neg c] at hq
      refine E_aln 0 d_Mo_mostInOne_29 rfl rfl ?_
      refine E_iln 3 d_Mo_mostInOne_30 rfl rfl ?_
      refine E_il 5 d_Mo_mostInOne_31 rfl ?_
      obtain ⟨q7, eq7, hq⟩ := bd hq
      obtain ⟨p6, ep6, hq⟩ := bd hq
      refine E_cV2I d_Mo_mostInOne_33 ck_Mo_158 rfl rfl eq7 (Nat.le_of_ble_eq_true rfl) (Nat.le_of_ble_eq_true rfl) (t_Mo_has (by omega) ep6) ?_
      refine E_zeq (tgt := 51) d_Mo_mostInOne_36 (by decide) (fun c => ?_) (fun c => ?_)
      · rw [if_pos c] at hq
        refine E_inc (v := 1) (ls' := [(5, .int (x5 + 1)), (0, .ref a0), (1, .int x1), (2, .int x2), (3, .int x3), (4, .int x4)]) 5 d_Mo_mostInOne_51 rfl (Nat.le_of_ble_eq_true rfl) (by decide) rfl ?_
        refine E_goto (tgt := 20) d_Mo_mostInOne_54 (by decide) ?_
        exact E_sub (ks := [1, 2, 3, 4, 5, 0]) rfl <| ih _ _ _ _ _ _ _ _ hq
      · rw [if_neg c] at hq
        refine E_il 4 d_Mo_mostInOne_39 rfl ?_
        refine E_aln 0 d_Mo_mostInOne_41 rfl rfl ?_
        obtain ⟨v8, ev8, hq⟩ := bd hq
        refine E_gR d_Mo_mostInOne_42 lk_Mo_101 rfl ev8 ?_
        refine E_il 5 d_Mo_mostInOne_45 rfl ?_
        obtain ⟨v9, ev9, hq⟩ := bd hq
        refine E_ra d_Mo_mostInOne_47 ev9 ?_
        refine E_iadd d_Mo_mostInOne_48 ?_
        refine E_is (ls' := [(4, .int (x4 + v9)), (0, .ref a0), (1, .int x1), (2, .int x2), (3, .int x3), (5, .int x5)]) d_Mo_mostInOne_49 (Nat.le_of_ble_eq_true rfl) rfl ?_
        refine E_inc (v := 1) (ls' := [(5, .int (x5 + 1)), (4, .int (x4 + v9)), (0, .ref a0), (1, .int x1), (2, .int x2), (3, .int x3)]) 5 d_Mo_mostInOne_51 rfl (Nat.le_of_ble_eq_true rfl) (by decide) rfl ?_
        refine E_goto (tgt := 20) d_Mo_mostInOne_54 (by decide) ?_
        exact E_sub (ks := [2, 3, 4, 5, 1, 0]) rfl <| ih _ _ _ _ _ _ _ _ hq
def f_Mo_mostInOne_4 : Nat → Nat → Int32 → Int32 → Int32 → PH → Option (Int32 × PH)
  | 0, _, _, _, _, _ => none
  | n + 1, a0, x1, x2, x3, h =>
    (ldI h 9 a0 52).bind fun v1 =>
    if (jshl 1 v1) ≤ x3 then
      some (x2, h)
    else
      f_Mo_mostInOne_20 (fun a0 x1 x2 x3 h => f_Mo_mostInOne_4 n a0 x1 x2 x3 h) FU a0 x1 x2 x3 0 0 h
theorem t_Mo_mostInOne_4 {d : Nat} (hd : 1 ≤ d) : ∀ (n : Nat) (a0 : Nat) (x1 : Int32) (x2 : Int32) (x3 : Int32) (h : PH) (r : Int32 × PH), f_Mo_mostInOne_4 n a0 x1 x2 x3 h = some r → E d 0 0 m_Mo_mostInOne 4 [(0, .ref a0), (1, .int x1), (2, .int x2), (3, .int x3)] [] h (PI r) := by
  intro n
  induction n with
  | zero => intro a0 x1 x2 x3 h r hq; rw [f_Mo_mostInOne_4] at hq; cases hq
  | succ n ih =>
    intro a0 x1 x2 x3 h r hq
    rw [f_Mo_mostInOne_4] at hq
    obtain ⟨d, rfl⟩ : ∃ e, d = e + 1 := ⟨d - 1, by omega⟩
    refine E_iln 3 d_Mo_mostInOne_4 rfl rfl ?_
    refine E_ic (v := 1) d_Mo_mostInOne_5 (by decide) ?_
    refine E_aln 0 d_Mo_mostInOne_6 rfl rfl ?_
    obtain ⟨v1, ev1, hq⟩ := bd hq
    refine E_gI d_Mo_mostInOne_7 lk_Mo_427 rfl ev1 ?_
    refine E_ishl d_Mo_mostInOne_10 ?_
    refine E_jge (tgt := 80) d_Mo_mostInOne_11 (by decide) (fun c => ?_) (fun c => ?_)
    · rw [if_pos c] at hq
      refine E_iln 2 d_Mo_mostInOne_80 rfl rfl ?_
      exact E_rI d_Mo_mostInOne_81 rfl hq
    · rw [if_neg c] at hq
      refine E_ic (v := 0) d_Mo_mostInOne_14 (by decide) ?_
      refine E_is (ls' := [(4, .int 0), (0, .ref a0), (1, .int x1), (2, .int x2), (3, .int x3)]) d_Mo_mostInOne_15 (Nat.le_of_ble_eq_true rfl) rfl ?_
      refine E_ic (v := 0) d_Mo_mostInOne_17 (by decide) ?_
      refine E_is (ls' := [(5, .int 0), (4, .int 0), (0, .ref a0), (1, .int x1), (2, .int x2), (3, .int x3)]) d_Mo_mostInOne_18 (Nat.le_of_ble_eq_true rfl) rfl ?_
      exact E_sub (ks := [2, 3, 4, 5, 1, 0]) rfl <| t_Mo_mostInOne_20 (by omega) ih _ _ _ _ _ _ _ _ _ hq
def f_Mo_mostInOne (a0 : Nat) (x1 : Int32) (h : PH) : Option (Int32 × PH) :=
  f_Mo_mostInOne_4 FU a0 x1 0 0 h
theorem t_Mo_mostInOne {d : Nat} (hd : 1 ≤ d) {a0 : Nat} {x1 : Int32} {h : PH} {r : Int32 × PH} (hq : f_Mo_mostInOne a0 x1 h = some r) : E d 0 0 m_Mo_mostInOne 0 [(0, .ref a0), (1, .int x1)] [] h (PI r) := by
  unfold f_Mo_mostInOne at hq
  obtain ⟨d, rfl⟩ : ∃ e, d = e + 1 := ⟨d - 1, by omega⟩
  refine E_ic (v := 0) d_Mo_mostInOne_0 (by decide) ?_
  refine E_isn (ls' := [(2, .int 0), (0, .ref a0), (1, .int x1)]) d_Mo_mostInOne_1 (Nat.le_of_ble_eq_true rfl) rfl ?_
  refine E_ic (v := 0) d_Mo_mostInOne_2 (by decide) ?_
  refine E_isn (ls' := [(3, .int 0), (2, .int 0), (0, .ref a0), (1, .int x1)]) d_Mo_mostInOne_3 (Nat.le_of_ble_eq_true rfl) rfl ?_
  exact E_sub (ks := [2, 3, 1, 0]) rfl <| t_Mo_mostInOne_4 (by omega) _ _ _ _ _ _ _ hq
def f_Mo_crates (a0 : Nat) (x1 : Int32) (x2 : Int32) (h : PH) : Option (Int32 × PH) :=
  (stI h 9 a0 0 0).bind fun h1 =>
  (isO h1 9 a0).bind fun _ =>
  (f_Mo_isIn a0 x1 1 99 h1).bind fun p2 =>
  if p2.1 = 0 then
    some ((-1), p2.2)
  else
    (isO p2.2 9 a0).bind fun _ =>
    (f_Mo_isIn a0 x2 0 1 p2.2).bind fun p4 =>
    if p4.1 = 0 then
      some ((-1), p4.2)
    else
      if x2 = 0 then
        (isO p4.2 9 a0).bind fun _ =>
        (f_Mo_fewestCrates a0 x1 p4.2).bind fun p8 =>
        some (p8.1, p8.2)
      else
        (isO p4.2 9 a0).bind fun _ =>
        (f_Mo_mostInOne a0 x1 p4.2).bind fun p6 =>
        some (p6.1, p6.2)
theorem t_Mo_crates {d : Nat} (hd : 2 ≤ d) {a0 : Nat} {x1 : Int32} {x2 : Int32} {h : PH} {r : Int32 × PH} (hq : f_Mo_crates a0 x1 x2 h = some r) : E d 0 0 m_Mo_crates 0 [(0, .ref a0), (1, .int x1), (2, .int x2)] [] h (PI r) := by
  unfold f_Mo_crates at hq
  obtain ⟨d, rfl⟩ : ∃ e, d = e + 1 := ⟨d - 1, by omega⟩
  refine E_aln 0 d_Mo_crates_0 rfl rfl ?_
  refine E_ic (v := 0) d_Mo_crates_1 (by decide) ?_
  obtain ⟨h1, eh1, hq⟩ := bd hq
  refine E_pI d_Mo_crates_2 lp_Mo_m_140 rfl eh1 ?_
  refine E_aln 0 d_Mo_crates_5 rfl rfl ?_
  refine E_iln 1 d_Mo_crates_6 rfl rfl ?_
  refine E_ic (v := 1) d_Mo_crates_7 (by decide) ?_
  refine E_bi (v := 99) d_Mo_crates_8 (by decide) ?_
  obtain ⟨q3, eq3, hq⟩ := bd hq
  obtain ⟨p2, ep2, hq⟩ := bd hq
  refine E_cV3I d_Mo_crates_10 ck_Mo_162 rfl rfl eq3 (Nat.le_of_ble_eq_true rfl) (Nat.le_of_ble_eq_true rfl) (t_Mo_isIn (by omega) ep2) ?_
  refine E_zeq (tgt := 26) d_Mo_crates_13 (by decide) (fun c => ?_) (fun c => ?_)
  · rw [if_pos c] at hq
    refine E_ic (v := (-1)) d_Mo_crates_26 (by decide) ?_
    exact E_rI d_Mo_crates_27 rfl hq
  · rw [if_neg c] at hq
    refine E_aln 0 d_Mo_crates_16 rfl rfl ?_
    refine E_iln 2 d_Mo_crates_17 rfl rfl ?_
    refine E_ic (v := 0) d_Mo_crates_18 (by decide) ?_
    refine E_ic (v := 1) d_Mo_crates_19 (by decide) ?_
    obtain ⟨q5, eq5, hq⟩ := bd hq
    obtain ⟨p4, ep4, hq⟩ := bd hq
    refine E_cV3I d_Mo_crates_20 ck_Mo_162 rfl rfl eq5 (Nat.le_of_ble_eq_true rfl) (Nat.le_of_ble_eq_true rfl) (t_Mo_isIn (by omega) ep4) ?_
    refine E_zne (tgt := 28) d_Mo_crates_23 (by decide) (fun c => ?_) (fun c => ?_)
    · rw [if_neg c] at hq
      refine E_iln 2 d_Mo_crates_28 rfl rfl ?_
      refine E_zne (tgt := 40) d_Mo_crates_29 (by decide) (fun c => ?_) (fun c => ?_)
      · rw [if_neg c] at hq
        refine E_aln 0 d_Mo_crates_40 rfl rfl ?_
        refine E_iln 1 d_Mo_crates_41 rfl rfl ?_
        obtain ⟨q7, eq7, hq⟩ := bd hq
        obtain ⟨p6, ep6, hq⟩ := bd hq
        refine E_cV1I d_Mo_crates_42 ck_Mo_437 rfl rfl eq7 (Nat.le_of_ble_eq_true rfl) (Nat.le_of_ble_eq_true rfl) (t_Mo_mostInOne (by omega) ep6) ?_
        exact E_rI d_Mo_crates_45 rfl hq
      · rw [if_pos c] at hq
        refine E_aln 0 d_Mo_crates_32 rfl rfl ?_
        refine E_iln 1 d_Mo_crates_33 rfl rfl ?_
        obtain ⟨q9, eq9, hq⟩ := bd hq
        obtain ⟨p8, ep8, hq⟩ := bd hq
        refine E_cV1I d_Mo_crates_34 ck_Mo_434 rfl rfl eq9 (Nat.le_of_ble_eq_true rfl) (Nat.le_of_ble_eq_true rfl) (t_Mo_fewestCrates (by omega) ep8) ?_
        refine E_goto (tgt := 45) d_Mo_crates_37 (by decide) ?_
        exact E_rI d_Mo_crates_45 rfl hq
    · rw [if_pos c] at hq
      refine E_ic (v := (-1)) d_Mo_crates_26 (by decide) ?_
      exact E_rI d_Mo_crates_27 rfl hq
def f_Mo_bag (a0 : Nat) (x1 : Int32) (h : PH) : Option (Int32 × PH) :=
  (stI h 9 a0 0 0).bind fun h1 =>
  if x1 = (-1) then
    (stI h1 9 a0 55 0).bind fun h11 =>
    (stI h11 9 a0 56 0).bind fun h12 =>
    some (0, h12)
  else
    (isO h1 9 a0).bind fun _ =>
    (f_Mo_isIn a0 x1 1 99 h1).bind fun p2 =>
    if p2.1 = 0 then
      some ((-1), p2.2)
    else
      (ldI p2.2 9 a0 55).bind fun v4 =>
      if v4 = 10 then
        some ((-1), p2.2)
      else
        (ldR p2.2 9 a0 57).bind fun v5 =>
        (ldI p2.2 9 a0 55).bind fun v6 =>
        (wrA p2.2 v5 v6 x1).bind fun h7 =>
        (ldI h7 9 a0 55).bind fun v8 =>
        (stI h7 9 a0 55 (v8 + 1)).bind fun h9 =>
        (ldI h9 9 a0 55).bind fun v10 =>
        some (v10, h9)
theorem t_Mo_bag {d : Nat} (hd : 1 ≤ d) {a0 : Nat} {x1 : Int32} {h : PH} {r : Int32 × PH} (hq : f_Mo_bag a0 x1 h = some r) : E d 0 0 m_Mo_bag 0 [(0, .ref a0), (1, .int x1)] [] h (PI r) := by
  unfold f_Mo_bag at hq
  obtain ⟨d, rfl⟩ : ∃ e, d = e + 1 := ⟨d - 1, by omega⟩
  refine E_aln 0 d_Mo_bag_0 rfl rfl ?_
  refine E_ic (v := 0) d_Mo_bag_1 (by decide) ?_
  obtain ⟨h1, eh1, hq⟩ := bd hq
  refine E_pI d_Mo_bag_2 lp_Mo_m_140 rfl eh1 ?_
  refine E_iln 1 d_Mo_bag_5 rfl rfl ?_
  refine E_ic (v := (-1)) d_Mo_bag_6 (by decide) ?_
  refine E_jne (tgt := 22) d_Mo_bag_7 (by decide) (fun c => ?_) (fun c => ?_)
  · rw [if_neg c] at hq
    refine E_aln 0 d_Mo_bag_22 rfl rfl ?_
    refine E_iln 1 d_Mo_bag_23 rfl rfl ?_
    refine E_ic (v := 1) d_Mo_bag_24 (by decide) ?_
    refine E_bi (v := 99) d_Mo_bag_25 (by decide) ?_
    obtain ⟨q3, eq3, hq⟩ := bd hq
    obtain ⟨p2, ep2, hq⟩ := bd hq
    refine E_cV3I d_Mo_bag_27 ck_Mo_162 rfl rfl eq3 (Nat.le_of_ble_eq_true rfl) (Nat.le_of_ble_eq_true rfl) (t_Mo_isIn (by omega) ep2) ?_
    refine E_zeq (tgt := 42) d_Mo_bag_30 (by decide) (fun c => ?_) (fun c => ?_)
    · rw [if_pos c] at hq
      refine E_ic (v := (-1)) d_Mo_bag_42 (by decide) ?_
      exact E_rI d_Mo_bag_43 rfl hq
    · rw [if_neg c] at hq
      refine E_aln 0 d_Mo_bag_33 rfl rfl ?_
      obtain ⟨v4, ev4, hq⟩ := bd hq
      refine E_gI d_Mo_bag_34 lk_Mo_440 rfl ev4 ?_
      refine E_bi (v := 10) d_Mo_bag_37 (by decide) ?_
      refine E_jne (tgt := 44) d_Mo_bag_39 (by decide) (fun c => ?_) (fun c => ?_)
      · rw [if_neg c] at hq
        refine E_aln 0 d_Mo_bag_44 rfl rfl ?_
        obtain ⟨v5, ev5, hq⟩ := bd hq
        refine E_gR d_Mo_bag_45 lk_Mo_107 rfl ev5 ?_
        refine E_aln 0 d_Mo_bag_48 rfl rfl ?_
        obtain ⟨v6, ev6, hq⟩ := bd hq
        refine E_gI d_Mo_bag_49 lk_Mo_440 rfl ev6 ?_
        refine E_iln 1 d_Mo_bag_52 rfl rfl ?_
        obtain ⟨h7, eh7, hq⟩ := bd hq
        refine E_wa d_Mo_bag_53 eh7 ?_
        refine E_aln 0 d_Mo_bag_54 rfl rfl ?_
        refine E_aln 0 d_Mo_bag_55 rfl rfl ?_
        obtain ⟨v8, ev8, hq⟩ := bd hq
        refine E_gI d_Mo_bag_56 lk_Mo_440 rfl ev8 ?_
        refine E_ic (v := 1) d_Mo_bag_59 (by decide) ?_
        refine E_iadd d_Mo_bag_60 ?_
        obtain ⟨h9, eh9, hq⟩ := bd hq
        refine E_pI d_Mo_bag_61 lp_Mo_m_440 rfl eh9 ?_
        refine E_aln 0 d_Mo_bag_64 rfl rfl ?_
        obtain ⟨v10, ev10, hq⟩ := bd hq
        refine E_gI d_Mo_bag_65 lk_Mo_440 rfl ev10 ?_
        exact E_rI d_Mo_bag_68 rfl hq
      · rw [if_pos c] at hq
        refine E_ic (v := (-1)) d_Mo_bag_42 (by decide) ?_
        exact E_rI d_Mo_bag_43 rfl hq
  · rw [if_pos c] at hq
    refine E_aln 0 d_Mo_bag_10 rfl rfl ?_
    refine E_ic (v := 0) d_Mo_bag_11 (by decide) ?_
    obtain ⟨h11, eh11, hq⟩ := bd hq
    refine E_pI d_Mo_bag_12 lp_Mo_m_440 rfl eh11 ?_
    refine E_aln 0 d_Mo_bag_15 rfl rfl ?_
    refine E_ic (v := 0) d_Mo_bag_16 (by decide) ?_
    obtain ⟨h12, eh12, hq⟩ := bd hq
    refine E_pI d_Mo_bag_17 lp_Mo_m_443 rfl eh12 ?_
    refine E_ic (v := 0) d_Mo_bag_20 (by decide) ?_
    exact E_rI d_Mo_bag_21 rfl hq
def f_Mo_weighed (a0 : Nat) (x1 : Int32) (x2 : Int32) (h : PH) : Option (Int32 × PH) :=
  (stI h 9 a0 0 0).bind fun h1 =>
  (ldI h1 9 a0 55).bind fun v2 =>
  (isO h1 9 a0).bind fun _ =>
  (f_Mo_isIn a0 x1 0 ((jshl 1 v2) - 1) h1).bind fun p3 =>
  if p3.1 = 0 then
    some ((-1), p3.2)
  else
    (isO p3.2 9 a0).bind fun _ =>
    (f_Mo_isIn a0 x2 0 9999 p3.2).bind fun p5 =>
    if p5.1 = 0 then
      some ((-1), p5.2)
    else
      (ldI p5.2 9 a0 56).bind fun v7 =>
      if v7 = 6 then
        some ((-1), p5.2)
      else
        (ldR p5.2 9 a0 58).bind fun v8 =>
        (ldI p5.2 9 a0 56).bind fun v9 =>
        (wrA p5.2 v8 v9 x1).bind fun h10 =>
        (ldR h10 9 a0 59).bind fun v11 =>
        (ldI h10 9 a0 56).bind fun v12 =>
        (wrA h10 v11 v12 x2).bind fun h13 =>
        (ldI h13 9 a0 56).bind fun v14 =>
        (stI h13 9 a0 56 (v14 + 1)).bind fun h15 =>
        (ldI h15 9 a0 56).bind fun v16 =>
        some (v16, h15)
theorem t_Mo_weighed {d : Nat} (hd : 1 ≤ d) {a0 : Nat} {x1 : Int32} {x2 : Int32} {h : PH} {r : Int32 × PH} (hq : f_Mo_weighed a0 x1 x2 h = some r) : E d 0 0 m_Mo_weighed 0 [(0, .ref a0), (1, .int x1), (2, .int x2)] [] h (PI r) := by
  unfold f_Mo_weighed at hq
  obtain ⟨d, rfl⟩ : ∃ e, d = e + 1 := ⟨d - 1, by omega⟩
  refine E_aln 0 d_Mo_weighed_0 rfl rfl ?_
  refine E_ic (v := 0) d_Mo_weighed_1 (by decide) ?_
  obtain ⟨h1, eh1, hq⟩ := bd hq
  refine E_pI d_Mo_weighed_2 lp_Mo_m_140 rfl eh1 ?_
  refine E_aln 0 d_Mo_weighed_5 rfl rfl ?_
  refine E_iln 1 d_Mo_weighed_6 rfl rfl ?_
  refine E_ic (v := 0) d_Mo_weighed_7 (by decide) ?_
  refine E_ic (v := 1) d_Mo_weighed_8 (by decide) ?_
  refine E_aln 0 d_Mo_weighed_9 rfl rfl ?_
  obtain ⟨v2, ev2, hq⟩ := bd hq
  refine E_gI d_Mo_weighed_10 lk_Mo_440 rfl ev2 ?_
  refine E_ishl d_Mo_weighed_13 ?_
  refine E_ic (v := 1) d_Mo_weighed_14 (by decide) ?_
  refine E_isub d_Mo_weighed_15 ?_
  obtain ⟨q4, eq4, hq⟩ := bd hq
  obtain ⟨p3, ep3, hq⟩ := bd hq
  refine E_cV3I d_Mo_weighed_16 ck_Mo_162 rfl rfl eq4 (Nat.le_of_ble_eq_true rfl) (Nat.le_of_ble_eq_true rfl) (t_Mo_isIn (by omega) ep3) ?_
  refine E_zeq (tgt := 43) d_Mo_weighed_19 (by decide) (fun c => ?_) (fun c => ?_)
  · rw [if_pos c] at hq
    refine E_ic (v := (-1)) d_Mo_weighed_43 (by decide) ?_
    exact E_rI d_Mo_weighed_44 rfl hq
  · rw [if_neg c] at hq
    refine E_aln 0 d_Mo_weighed_22 rfl rfl ?_
    refine E_iln 2 d_Mo_weighed_23 rfl rfl ?_
    refine E_ic (v := 0) d_Mo_weighed_24 (by decide) ?_
    refine E_si (v := 9999) d_Mo_weighed_25 (by decide) ?_
    obtain ⟨q6, eq6, hq⟩ := bd hq
    obtain ⟨p5, ep5, hq⟩ := bd hq
    refine E_cV3I d_Mo_weighed_28 ck_Mo_162 rfl rfl eq6 (Nat.le_of_ble_eq_true rfl) (Nat.le_of_ble_eq_true rfl) (t_Mo_isIn (by omega) ep5) ?_
    refine E_zeq (tgt := 43) d_Mo_weighed_31 (by decide) (fun c => ?_) (fun c => ?_)
    · rw [if_pos c] at hq
      refine E_ic (v := (-1)) d_Mo_weighed_43 (by decide) ?_
      exact E_rI d_Mo_weighed_44 rfl hq
    · rw [if_neg c] at hq
      refine E_aln 0 d_Mo_weighed_34 rfl rfl ?_
      obtain ⟨v7, ev7, hq⟩ := bd hq
      refine E_gI d_Mo_weighed_35 lk_Mo_443 rfl ev7 ?_
      refine E_bi (v := 6) d_Mo_weighed_38 (by decide) ?_
      refine E_jne (tgt := 45) d_Mo_weighed_40 (by decide) (fun c => ?_) (fun c => ?_)
      · rw [if_neg c] at hq
        refine E_aln 0 d_Mo_weighed_45 rfl rfl ?_
        obtain ⟨v8, ev8, hq⟩ := bd hq
        refine E_gR d_Mo_weighed_46 lk_Mo_110 rfl ev8 ?_
        refine E_aln 0 d_Mo_weighed_49 rfl rfl ?_
        obtain ⟨v9, ev9, hq⟩ := bd hq
        refine E_gI d_Mo_weighed_50 lk_Mo_443 rfl ev9 ?_
        refine E_iln 1 d_Mo_weighed_53 rfl rfl ?_
        obtain ⟨h10, eh10, hq⟩ := bd hq
        refine E_wa d_Mo_weighed_54 eh10 ?_
        refine E_aln 0 d_Mo_weighed_55 rfl rfl ?_
        obtain ⟨v11, ev11, hq⟩ := bd hq
        refine E_gR d_Mo_weighed_56 lk_Mo_113 rfl ev11 ?_
        refine E_aln 0 d_Mo_weighed_59 rfl rfl ?_
        obtain ⟨v12, ev12, hq⟩ := bd hq
        refine E_gI d_Mo_weighed_60 lk_Mo_443 rfl ev12 ?_
        refine E_iln 2 d_Mo_weighed_63 rfl rfl ?_
        obtain ⟨h13, eh13, hq⟩ := bd hq
        refine E_wa d_Mo_weighed_64 eh13 ?_
        refine E_aln 0 d_Mo_weighed_65 rfl rfl ?_
        refine E_aln 0 d_Mo_weighed_66 rfl rfl ?_
        obtain ⟨v14, ev14, hq⟩ := bd hq
        refine E_gI d_Mo_weighed_67 lk_Mo_443 rfl ev14 ?_
        refine E_ic (v := 1) d_Mo_weighed_70 (by decide) ?_
        refine E_iadd d_Mo_weighed_71 ?_
        obtain ⟨h15, eh15, hq⟩ := bd hq
        refine E_pI d_Mo_weighed_72 lp_Mo_m_443 rfl eh15 ?_
        refine E_aln 0 d_Mo_weighed_75 rfl rfl ?_
        obtain ⟨v16, ev16, hq⟩ := bd hq
        refine E_gI d_Mo_weighed_76 lk_Mo_443 rfl ev16 ?_
        exact E_rI d_Mo_weighed_79 rfl hq
      · rw [if_pos c] at hq
        refine E_ic (v := (-1)) d_Mo_weighed_43 (by decide) ?_
        exact E_rI d_Mo_weighed_44 rfl hq
def f_Mo_isSuspect_34 (k2 : Nat → Int32 → Int32 → PH → Option (Int32 × PH)) : Nat → Nat → Int32 → Int32 → Int32 → Int32 → PH → Option (Int32 × PH)
  | 0, _, _, _, _, _, _ => none
  | n + 1, a0, x1, x2, x3, x4, h =>
    (ldI h 9 a0 55).bind fun v1 =>
    if v1 ≤ x4 then
      (ldR h 9 a0 59).bind fun v2 =>
      (rdA h v2 x2).bind fun v3 =>
      if x3 = v3 then
        k2 a0 x1 (x2 + 1) h
      else
        rtZ 0 h
    else
      (ldR h 9 a0 58).bind fun v4 =>
      (rdA h v4 x2).bind fun v5 =>
      (isO h 9 a0).bind fun _ =>
      (f_Mo_has a0 v5 x4 h).bind fun p6 =>
      if p6.1 = 0 then
        f_Mo_isSuspect_34 k2 n a0 x1 x2 x3 (x4 + 1) p6.2
      else
        (ldR p6.2 9 a0 57).bind fun v8 =>
        (rdA p6.2 v8 x4).bind fun v9 =>
        f_Mo_isSuspect_34 k2 n a0 x1 x2 (x3 + v9) (x4 + 1) p6.2
theorem t_Mo_isSuspect_34 {d : Nat} (hd : 1 ≤ d) {k2 : Nat → Int32 → Int32 → PH → Option (Int32 × PH)} (hk2 : ∀ (a0 : Nat) (x1 : Int32) (x2 : Int32) (h : PH) (r : Int32 × PH), k2 a0 x1 x2 h = some r → E d 0 0 m_Mo_isSuspect 2 [(0, .ref a0), (1, .int x1), (2, .int x2)] [] h (PI r)) : ∀ (n : Nat) (a0 : Nat) (x1 : Int32) (x2 : Int32) (x3 : Int32) (x4 : Int32) (h : PH) (r : Int32 × PH), f_Mo_isSuspect_34 k2 n a0 x1 x2 x3 x4 h = some r → E d 0 0 m_Mo_isSuspect 34 [(0, .ref a0), (1, .int x1), (2, .int x2), (3, .int x3), (4, .int x4)] [] h (PI r) := by
  intro n
  induction n with
  | zero => intro a0 x1 x2 x3 x4 h r hq; rw [f_Mo_isSuspect_34] at hq; cases hq
  | succ n ih =>
    intro a0 x1 x2 x3 x4 h r hq
    rw [f_Mo_isSuspect_34] at hq
    obtain ⟨d, rfl⟩ : ∃ e, d = e + 1 := ⟨d - 1, by omega⟩
    refine E_il 4 d_Mo_isSuspect_34 rfl ?_
    refine E_aln 0 d_Mo_isSuspect_36 rfl rfl ?_
    obtain ⟨v1, ev1, hq⟩ := bd hq
    refine E_gI d_Mo_isSuspect_37 lk_Mo_440 rfl ev1 ?_
    refine E_jge (tgt := 74) d_Mo_isSuspect_40 (by decide) (fun c => ?_) (fun c => ?_)
    · rw [if_pos c] at hq
      refine E_iln 3 d_Mo_isSuspect_74 rfl rfl ?_
      refine E_aln 0 d_Mo_isSuspect_75 rfl rfl ?_
      obtain ⟨v2, ev2, hq⟩ := bd hq
      refine E_gR d_Mo_isSuspect_76 lk_Mo_113 rfl ev2 ?_
      refine E_iln 2 d_Mo_isSuspect_79 rfl rfl ?_
      obtain ⟨v3, ev3, hq⟩ := bd hq
      refine E_ra d_Mo_isSuspect_80 ev3 ?_
      refine E_jeq (tgt := 86) d_Mo_isSuspect_81 (by decide) (fun c => ?_) (fun c => ?_)
      · rw [if_pos c] at hq
        refine E_inc (v := 1) (ls' := [(2, .int (x2 + 1)), (0, .ref a0), (1, .int x1), (3, .int x3), (4, .int x4)]) 2 d_Mo_isSuspect_86 rfl (Nat.le_of_ble_eq_true rfl) (by decide) rfl ?_
        refine E_goto (tgt := 2) d_Mo_isSuspect_89 (by decide) ?_
        exact E_sub (ks := [1, 2, 0]) rfl <| hk2 _ _ _ _ _ hq
      · rw [if_neg c] at hq
        refine E_ic (v := 0) d_Mo_isSuspect_84 (by decide) ?_
        exact E_rZ d_Mo_isSuspect_85 rfl hq
    · rw [if_neg c] at hq
      refine E_aln 0 d_Mo_isSuspect_43 rfl rfl ?_
      refine E_aln 0 d_Mo_isSuspect_44 rfl rfl ?_
      obtain ⟨v4, ev4, hq⟩ := bd hq
      refine E_gR d_Mo_isSuspect_45 lk_Mo_110 rfl ev4 ?_
      refine E_iln 2 d_Mo_isSuspect_48 rfl rfl ?_
      obtain ⟨v5, ev5, hq⟩ := bd hq
      refine E_ra d_Mo_isSuspect_49 ev5 ?_
      refine E_il 4 d_Mo_isSuspect_50 rfl ?_
      obtain ⟨q7, eq7, hq⟩ := bd hq
      obtain ⟨p6, ep6, hq⟩ := bd hq
      refine E_cV2I d_Mo_isSuspect_52 ck_Mo_158 rfl rfl eq7 (Nat.le_of_ble_eq_true rfl) (Nat.le_of_ble_eq_true rfl) (t_Mo_has (by omega) ep6) ?_
      refine E_zeq (tgt := 68) d_Mo_isSuspect_55 (by decide) (fun c => ?_) (fun c => ?_)
      · rw [if_pos c] at hq
        refine E_inc (v := 1) (ls' := [(4, .int (x4 + 1)), (0, .ref a0), (1, .int x1), (2, .int x2), (3, .int x3)]) 4 d_Mo_isSuspect_68 rfl (Nat.le_of_ble_eq_true rfl) (by decide) rfl ?_
        refine E_goto (tgt := 34) d_Mo_isSuspect_71 (by decide) ?_
        exact E_sub (ks := [1, 2, 3, 4, 0]) rfl <| ih _ _ _ _ _ _ _ hq
      · rw [if_neg c] at hq
        refine E_iln 3 d_Mo_isSuspect_58 rfl rfl ?_
        refine E_aln 0 d_Mo_isSuspect_59 rfl rfl ?_
        obtain ⟨v8, ev8, hq⟩ := bd hq
        refine E_gR d_Mo_isSuspect_60 lk_Mo_107 rfl ev8 ?_
        refine E_il 4 d_Mo_isSuspect_63 rfl ?_
        obtain ⟨v9, ev9, hq⟩ := bd hq
        refine E_ra d_Mo_isSuspect_65 ev9 ?_
        refine E_iadd d_Mo_isSuspect_66 ?_
        refine E_isn (ls' := [(3, .int (x3 + v9)), (0, .ref a0), (1, .int x1), (2, .int x2), (4, .int x4)]) d_Mo_isSuspect_67 (Nat.le_of_ble_eq_true rfl) rfl ?_
        refine E_inc (v := 1) (ls' := [(4, .int (x4 + 1)), (3, .int (x3 + v9)), (0, .ref a0), (1, .int x1), (2, .int x2)]) 4 d_Mo_isSuspect_68 rfl (Nat.le_of_ble_eq_true rfl) (by decide) rfl ?_
        refine E_goto (tgt := 34) d_Mo_isSuspect_71 (by decide) ?_
        exact E_sub (ks := [2, 3, 4, 1, 0]) rfl <| ih _ _ _ _ _ _ _ hq
def f_Mo_isSuspect_30 (k2 : Nat → Int32 → Int32 → PH → Option (Int32 × PH)) (a0 : Nat) (x1 : Int32) (x2 : Int32) (s0 : Int32) (h : PH) : Option (Int32 × PH) :=
  f_Mo_isSuspect_34 k2 FU a0 x1 x2 s0 0 h
theorem t_Mo_isSuspect_30 {d : Nat} (hd : 1 ≤ d) {k2 : Nat → Int32 → Int32 → PH → Option (Int32 × PH)} (hk2 : ∀ (a0 : Nat) (x1 : Int32) (x2 : Int32) (h : PH) (r : Int32 × PH), k2 a0 x1 x2 h = some r → E d 0 0 m_Mo_isSuspect 2 [(0, .ref a0), (1, .int x1), (2, .int x2)] [] h (PI r)) {a0 : Nat} {x1 : Int32} {x2 : Int32} {s0 : Int32} {h : PH} {r : Int32 × PH} (hq : f_Mo_isSuspect_30 k2 a0 x1 x2 s0 h = some r) : E d 0 0 m_Mo_isSuspect 30 [(0, .ref a0), (1, .int x1), (2, .int x2)] [.int s0] h (PI r) := by
  unfold f_Mo_isSuspect_30 at hq
  obtain ⟨d, rfl⟩ : ∃ e, d = e + 1 := ⟨d - 1, by omega⟩
  refine E_isn (ls' := [(3, .int s0), (0, .ref a0), (1, .int x1), (2, .int x2)]) d_Mo_isSuspect_30 (Nat.le_of_ble_eq_true rfl) rfl ?_
  refine E_ic (v := 0) d_Mo_isSuspect_31 (by decide) ?_
  refine E_is (ls' := [(4, .int 0), (3, .int s0), (0, .ref a0), (1, .int x1), (2, .int x2)]) d_Mo_isSuspect_32 (Nat.le_of_ble_eq_true rfl) rfl ?_
  exact E_sub (ks := [2, 3, 4, 1, 0]) rfl <| t_Mo_isSuspect_34 (by omega) hk2 _ _ _ _ _ _ _ _ hq
def f_Mo_isSuspect_2 : Nat → Nat → Int32 → Int32 → PH → Option (Int32 × PH)
  | 0, _, _, _, _ => none
  | n + 1, a0, x1, x2, h =>
    (ldI h 9 a0 56).bind fun v1 =>
    if v1 ≤ x2 then
      rtZ 1 h
    else
      (ldR h 9 a0 58).bind fun v2 =>
      (rdA h v2 x2).bind fun v3 =>
      (isO h 9 a0).bind fun _ =>
      (f_Mo_has a0 v3 x1 h).bind fun p4 =>
      if p4.1 = 0 then
        f_Mo_isSuspect_30 (fun a0 x1 x2 h => f_Mo_isSuspect_2 n a0 x1 x2 h) a0 x1 x2 0 p4.2
      else
        f_Mo_isSuspect_30 (fun a0 x1 x2 h => f_Mo_isSuspect_2 n a0 x1 x2 h) a0 x1 x2 7 p4.2
theorem t_Mo_isSuspect_2 {d : Nat} (hd : 1 ≤ d) : ∀ (n : Nat) (a0 : Nat) (x1 : Int32) (x2 : Int32) (h : PH) (r : Int32 × PH), f_Mo_isSuspect_2 n a0 x1 x2 h = some r → E d 0 0 m_Mo_isSuspect 2 [(0, .ref a0), (1, .int x1), (2, .int x2)] [] h (PI r) := by
  intro n
  induction n with
  | zero => intro a0 x1 x2 h r hq; rw [f_Mo_isSuspect_2] at hq; cases hq
  | succ n ih =>
    intro a0 x1 x2 h r hq
    rw [f_Mo_isSuspect_2] at hq
    obtain ⟨d, rfl⟩ : ∃ e, d = e + 1 := ⟨d - 1, by omega⟩
    refine E_iln 2 d_Mo_isSuspect_2 rfl rfl ?_
    refine E_aln 0 d_Mo_isSuspect_3 rfl rfl ?_
    obtain ⟨v1, ev1, hq⟩ := bd hq
    refine E_gI d_Mo_isSuspect_4 lk_Mo_443 rfl ev1 ?_
    refine E_jge (tgt := 92) d_Mo_isSuspect_7 (by decide) (fun c => ?_) (fun c => ?_)
    · rw [if_pos c] at hq
      refine E_ic (v := 1) d_Mo_isSuspect_92 (by decide) ?_
      exact E_rZ d_Mo_isSuspect_93 rfl hq
    · rw [if_neg c] at hq
      refine E_aln 0 d_Mo_isSuspect_10 rfl rfl ?_
      refine E_aln 0 d_Mo_isSuspect_11 rfl rfl ?_
      obtain ⟨v2, ev2, hq⟩ := bd hq
      refine E_gR d_Mo_isSuspect_12 lk_Mo_110 rfl ev2 ?_
      refine E_iln 2 d_Mo_isSuspect_15 rfl rfl ?_
      obtain ⟨v3, ev3, hq⟩ := bd hq
      refine E_ra d_Mo_isSuspect_16 ev3 ?_
      refine E_iln 1 d_Mo_isSuspect_17 rfl rfl ?_
      obtain ⟨q5, eq5, hq⟩ := bd hq
      obtain ⟨p4, ep4, hq⟩ := bd hq
      refine E_cV2I d_Mo_isSuspect_18 ck_Mo_158 rfl rfl eq5 (Nat.le_of_ble_eq_true rfl) (Nat.le_of_ble_eq_true rfl) (t_Mo_has (by omega) ep4) ?_
      refine E_zeq (tgt := 29) d_Mo_isSuspect_21 (by decide) (fun c => ?_) (fun c => ?_)
      · rw [if_pos c] at hq
        refine E_ic (v := 0) d_Mo_isSuspect_29 (by decide) ?_
        exact t_Mo_isSuspect_30 (by omega) ih hq
      · rw [if_neg c] at hq
        refine E_bi (v := 7) d_Mo_isSuspect_24 (by decide) ?_
        refine E_goto (tgt := 30) d_Mo_isSuspect_26 (by decide) ?_
        exact t_Mo_isSuspect_30 (by omega) ih hq
def f_Mo_isSuspect (a0 : Nat) (x1 : Int32) (h : PH) : Option (Int32 × PH) :=
  f_Mo_isSuspect_2 FU a0 x1 0 h
theorem t_Mo_isSuspect {d : Nat} (hd : 1 ≤ d) {a0 : Nat} {x1 : Int32} {h : PH} {r : Int32 × PH} (hq : f_Mo_isSuspect a0 x1 h = some r) : E d 0 0 m_Mo_isSuspect 0 [(0, .ref a0), (1, .int x1)] [] h (PI r) := by
  unfold f_Mo_isSuspect at hq
  obtain ⟨d, rfl⟩ : ∃ e, d = e + 1 := ⟨d - 1, by omega⟩
  refine E_ic (v := 0) d_Mo_isSuspect_0 (by decide) ?_
  refine E_isn (ls' := [(2, .int 0), (0, .ref a0), (1, .int x1)]) d_Mo_isSuspect_1 (Nat.le_of_ble_eq_true rfl) rfl ?_
  exact E_sub (ks := [1, 2, 0]) rfl <| t_Mo_isSuspect_2 (by omega) _ _ _ _ _ _ hq
