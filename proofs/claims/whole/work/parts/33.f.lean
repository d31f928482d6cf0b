def f_Mo_votesIn_4 : Nat → Nat → Int32 → Int32 → Int32 → PH → Option (Int32 × PH)
  | 0, _, _, _, _, _ => none
  | n + 1, a0, x1, x2, x3, h =>
    (ldI h 9 a0 7).bind fun v1 =>
    if v1 ≤ x3 then
      some (x2, h)
    else
      (ldR h 9 a0 1).bind fun v2 =>
      (rdA h v2 (67 + x3)).bind fun v3 =>
      (isO h 9 a0).bind fun _ =>
      (f_Mo_has a0 x1 v3 h).bind fun p4 =>
      if p4.1 = 0 then
        f_Mo_votesIn_4 n a0 x1 x2 (x3 + 1) p4.2
      else
        (ldR p4.2 9 a0 11).bind fun v6 =>
        (rdA p4.2 v6 x3).bind fun v7 =>
        f_Mo_votesIn_4 n a0 x1 ((x2 + v7) + 1) (x3 + 1) p4.2
theorem t_Mo_votesIn_4 {d : Nat} (hd : 1 ≤ d) : ∀ (n : Nat) (a0 : Nat) (x1 : Int32) (x2 : Int32) (x3 : Int32) (h : PH) (r : Int32 × PH), f_Mo_votesIn_4 n a0 x1 x2 x3 h = some r → E d 0 0 m_Mo_votesIn 4 [(0, .ref a0), (1, .int x1), (2, .int x2), (3, .int x3)] [] h (PI r) := by
  intro n
  induction n with
  | zero => intro a0 x1 x2 x3 h r hq; rw [f_Mo_votesIn_4] at hq; cases hq
  | succ n ih =>
    intro a0 x1 x2 x3 h r hq
    rw [f_Mo_votesIn_4] at hq
    obtain ⟨d, rfl⟩ : ∃ e, d = e + 1 := ⟨d - 1, by omega⟩
    refine E_iln 3 d_Mo_votesIn_4 rfl rfl ?_
    refine E_aln 0 d_Mo_votesIn_5 rfl rfl ?_
    obtain ⟨v1, ev1, hq⟩ := bd hq
    refine E_gI d_Mo_votesIn_6 lk_Mo_155 rfl ev1 ?_
    refine E_jge (tgt := 46) d_Mo_votesIn_9 (by decide) (fun c => ?_) (fun c => ?_)
    · rw [if_pos c] at hq
      refine E_iln 2 d_Mo_votesIn_46 rfl rfl ?_
      exact E_rI d_Mo_votesIn_47 rfl hq
    · rw [if_neg c] at hq
      refine E_aln 0 d_Mo_votesIn_12 rfl rfl ?_
      refine E_iln 1 d_Mo_votesIn_13 rfl rfl ?_
      refine E_aln 0 d_Mo_votesIn_14 rfl rfl ?_
      obtain ⟨v2, ev2, hq⟩ := bd hq
      refine E_gR d_Mo_votesIn_15 lk_Mo_7 rfl ev2 ?_
      refine E_bi (v := 67) d_Mo_votesIn_18 (by decide) ?_
      refine E_iln 3 d_Mo_votesIn_20 rfl rfl ?_
      refine E_iadd d_Mo_votesIn_21 ?_
      obtain ⟨v3, ev3, hq⟩ := bd hq
      refine E_ra d_Mo_votesIn_22 ev3 ?_
      obtain ⟨q5, eq5, hq⟩ := bd hq
      obtain ⟨p4, ep4, hq⟩ := bd hq
      refine E_cV2I d_Mo_votesIn_23 ck_Mo_158 rfl rfl eq5 (Nat.le_of_ble_eq_true rfl) (Nat.le_of_ble_eq_true rfl) (t_Mo_has (by omega) ep4) ?_
      refine E_zeq (tgt := 40) d_Mo_votesIn_26 (by decide) (fun c => ?_) (fun c => ?_)
      · rw [if_pos c] at hq
        refine E_inc (v := 1) (ls' := [(3, .int (x3 + 1)), (0, .ref a0), (1, .int x1), (2, .int x2)]) 3 d_Mo_votesIn_40 rfl (Nat.le_of_ble_eq_true rfl) (by decide) rfl ?_
        refine E_goto (tgt := 4) d_Mo_votesIn_43 (by decide) ?_
        exact E_sub (ks := [1, 2, 3, 0]) rfl <| ih _ _ _ _ _ _ hq
      · rw [if_neg c] at hq
        refine E_iln 2 d_Mo_votesIn_29 rfl rfl ?_
        refine E_aln 0 d_Mo_votesIn_30 rfl rfl ?_
        obtain ⟨v6, ev6, hq⟩ := bd hq
        refine E_gR d_Mo_votesIn_31 lk_Mo_28 rfl ev6 ?_
        refine E_iln 3 d_Mo_votesIn_34 rfl rfl ?_
        obtain ⟨v7, ev7, hq⟩ := bd hq
        refine E_ra d_Mo_votesIn_35 ev7 ?_
        refine E_iadd d_Mo_votesIn_36 ?_
        refine E_ic (v := 1) d_Mo_votesIn_37 (by decide) ?_
        refine E_iadd d_Mo_votesIn_38 ?_
        refine E_isn (ls' := [(2, .int ((x2 + v7) + 1)), (0, .ref a0), (1, .int x1), (3, .int x3)]) d_Mo_votesIn_39 (Nat.le_of_ble_eq_true rfl) rfl ?_
        refine E_inc (v := 1) (ls' := [(3, .int (x3 + 1)), (2, .int ((x2 + v7) + 1)), (0, .ref a0), (1, .int x1)]) 3 d_Mo_votesIn_40 rfl (Nat.le_of_ble_eq_true rfl) (by decide) rfl ?_
        refine E_goto (tgt := 4) d_Mo_votesIn_43 (by decide) ?_
        exact E_sub (ks := [2, 3, 1, 0]) rfl <| ih _ _ _ _ _ _ hq
def f_Mo_votesIn (a0 : Nat) (x1 : Int32) (h : PH) : Option (Int32 × PH) :=
  f_Mo_votesIn_4 FU a0 x1 0 0 h
theorem t_Mo_votesIn {d : Nat} (hd : 1 ≤ d) {a0 : Nat} {x1 : Int32} {h : PH} {r : Int32 × PH} (hq : f_Mo_votesIn a0 x1 h = some r) : E d 0 0 m_Mo_votesIn 0 [(0, .ref a0), (1, .int x1)] [] h (PI r) := by
  unfold f_Mo_votesIn at hq
  obtain ⟨d, rfl⟩ : ∃ e, d = e + 1 := ⟨d - 1, by omega⟩
  refine E_ic (v := 0) d_Mo_votesIn_0 (by decide) ?_
  refine E_isn (ls' := [(2, .int 0), (0, .ref a0), (1, .int x1)]) d_Mo_votesIn_1 (Nat.le_of_ble_eq_true rfl) rfl ?_
  refine E_ic (v := 0) d_Mo_votesIn_2 (by decide) ?_
  refine E_isn (ls' := [(3, .int 0), (2, .int 0), (0, .ref a0), (1, .int x1)]) d_Mo_votesIn_3 (Nat.le_of_ble_eq_true rfl) rfl ?_
  exact E_sub (ks := [2, 3, 1, 0]) rfl <| t_Mo_votesIn_4 (by omega) _ _ _ _ _ _ _ hq
def f_Mo_isMore (a0 : Nat) (x1 : Int32) (h : PH) : Option (Int32 × PH) :=
  (isO h 9 a0).bind fun _ =>
  (f_Mo_votesIn a0 x1 h).bind fun p1 =>
  (isO p1.2 9 a0).bind fun _ =>
  (f_Mo_votesIn a0 15 p1.2).bind fun p3 =>
  if (2 * p1.1) ≤ p3.1 then
    rtZ 0 p3.2
  else
    rtZ 1 p3.2
theorem t_Mo_isMore {d : Nat} (hd : 2 ≤ d) {a0 : Nat} {x1 : Int32} {h : PH} {r : Int32 × PH} (hq : f_Mo_isMore a0 x1 h = some r) : E d 0 0 m_Mo_isMore 0 [(0, .ref a0), (1, .int x1)] [] h (PI r) := by
  unfold f_Mo_isMore at hq
  obtain ⟨d, rfl⟩ : ∃ e, d = e + 1 := ⟨d - 1, by omega⟩
  refine E_ic (v := 2) d_Mo_isMore_0 (by decide) ?_
  refine E_aln 0 d_Mo_isMore_1 rfl rfl ?_
  refine E_iln 1 d_Mo_isMore_2 rfl rfl ?_
  obtain ⟨q2, eq2, hq⟩ := bd hq
  obtain ⟨p1, ep1, hq⟩ := bd hq
  refine E_cV1I d_Mo_isMore_3 ck_Mo_486 rfl rfl eq2 (Nat.le_of_ble_eq_true rfl) (Nat.le_of_ble_eq_true rfl) (t_Mo_votesIn (by omega) ep1) ?_
  refine E_imul d_Mo_isMore_6 ?_
  refine E_aln 0 d_Mo_isMore_7 rfl rfl ?_
  refine E_bi (v := 15) d_Mo_isMore_8 (by decide) ?_
  obtain ⟨q4, eq4, hq⟩ := bd hq
  obtain ⟨p3, ep3, hq⟩ := bd hq
  refine E_cV1I d_Mo_isMore_10 ck_Mo_486 rfl rfl eq4 (Nat.le_of_ble_eq_true rfl) (Nat.le_of_ble_eq_true rfl) (t_Mo_votesIn (by omega) ep3) ?_
  refine E_jle (tgt := 20) d_Mo_isMore_13 (by decide) (fun c => ?_) (fun c => ?_)
  · rw [if_pos c] at hq
    refine E_ic (v := 0) d_Mo_isMore_20 (by decide) ?_
    exact E_rZ d_Mo_isMore_21 rfl hq
  · rw [if_neg c] at hq
    refine E_ic (v := 1) d_Mo_isMore_16 (by decide) ?_
    refine E_goto (tgt := 21) d_Mo_isMore_17 (by decide) ?_
    exact E_rZ d_Mo_isMore_21 rfl hq
def f_Mo_votes_42 : Nat → Nat → Int32 → Int32 → Int32 → PH → Option (Int32 × PH)
  | 0, _, _, _, _, _ => none
  | n + 1, a0, x1, x3, x4, h =>
    if 16 ≤ x4 then
      some (x3, h)
    else
      (isO h 9 a0).bind fun _ =>
      (f_Mo_has a0 x4 x1 h).bind fun p1 =>
      if p1.1 = 0 then
        (isO p1.2 9 a0).bind fun _ =>
        (f_Mo_isMore a0 x4 p1.2).bind fun p3 =>
        if p3.1 = 0 then
          (isO p3.2 9 a0).bind fun _ =>
          (f_Mo_isMore a0 (x4 ||| (jshl 1 x1)) p3.2).bind fun p5 =>
          if p5.1 = 0 then
            f_Mo_votes_42 n a0 x1 x3 (x4 + 1) p5.2
          else
            f_Mo_votes_42 n a0 x1 (x3 + 1) (x4 + 1) p5.2
        else
          f_Mo_votes_42 n a0 x1 x3 (x4 + 1) p3.2
      else
        f_Mo_votes_42 n a0 x1 x3 (x4 + 1) p1.2
theorem t_Mo_votes_42 {d : Nat} (hd : 3 ≤ d) : ∀ (n : Nat) (a0 : Nat) (x1 : Int32) (x3 : Int32) (x4 : Int32) (h : PH) (r : Int32 × PH), f_Mo_votes_42 n a0 x1 x3 x4 h = some r → E d 0 0 m_Mo_votes 42 [(0, .ref a0), (1, .int x1), (3, .int x3), (4, .int x4)] [] h (PI r) := by
  intro n
  induction n with
  | zero => intro a0 x1 x3 x4 h r hq; rw [f_Mo_votes_42] at hq; cases hq
  | succ n ih =>
    intro a0 x1 x3 x4 h r hq
    rw [f_Mo_votes_42] at hq
    obtain ⟨d, rfl⟩ : ∃ e, d = e + 1 := ⟨d - 1, by omega⟩
    refine E_il 3 d_Mo_votes_42 rfl ?_
    refine E_bi (v := 16) d_Mo_votes_44 (by decide) ?_
    refine E_jge (tgt := 91) d_Mo_votes_46 (by decide) (fun c => ?_) (fun c => ?_)
    · rw [if_pos c] at hq
      refine E_iln 2 d_Mo_votes_91 rfl rfl ?_
      exact E_rI d_Mo_votes_92 rfl hq
    · rw [if_neg c] at hq
      refine E_aln 0 d_Mo_votes_49 rfl rfl ?_
      refine E_il 3 d_Mo_votes_50 rfl ?_
      refine E_iln 1 d_Mo_votes_52 rfl rfl ?_
      obtain ⟨q2, eq2, hq⟩ := bd hq
      obtain ⟨p1, ep1, hq⟩ := bd hq
      refine E_cV2I d_Mo_votes_53 ck_Mo_158 rfl rfl eq2 (Nat.le_of_ble_eq_true rfl) (Nat.le_of_ble_eq_true rfl) (t_Mo_has (by omega) ep1) ?_
      refine E_zne (tgt := 85) d_Mo_votes_56 (by decide) (fun c => ?_) (fun c => ?_)
      · rw [if_neg c] at hq
        refine E_inc (v := 1) (ls' := [(4, .int (x4 + 1)), (0, .ref a0), (1, .int x1), (3, .int x3)]) 3 d_Mo_votes_85 rfl (Nat.le_of_ble_eq_true rfl) (by decide) rfl ?_
        refine E_goto (tgt := 42) d_Mo_votes_88 (by decide) ?_
        exact E_sub (ks := [1, 2, 3, 0]) rfl <| ih _ _ _ _ _ _ hq
      · rw [if_pos c] at hq
        refine E_aln 0 d_Mo_votes_59 rfl rfl ?_
        refine E_il 3 d_Mo_votes_60 rfl ?_
        obtain ⟨q4, eq4, hq⟩ := bd hq
        obtain ⟨p3, ep3, hq⟩ := bd hq
        refine E_cV1I d_Mo_votes_62 ck_Mo_489 rfl rfl eq4 (Nat.le_of_ble_eq_true rfl) (Nat.le_of_ble_eq_true rfl) (t_Mo_isMore (by omega) ep3) ?_
        refine E_zne (tgt := 85) d_Mo_votes_65 (by decide) (fun c => ?_) (fun c => ?_)
        · rw [if_neg c] at hq
          refine E_inc (v := 1) (ls' := [(4, .int (x4 + 1)), (0, .ref a0), (1, .int x1), (3, .int x3)]) 3 d_Mo_votes_85 rfl (Nat.le_of_ble_eq_true rfl) (by decide) rfl ?_
          refine E_goto (tgt := 42) d_Mo_votes_88 (by decide) ?_
          exact E_sub (ks := [1, 2, 3, 0]) rfl <| ih _ _ _ _ _ _ hq
        · rw [if_pos c] at hq
          refine E_aln 0 d_Mo_votes_68 rfl rfl ?_
          refine E_il 3 d_Mo_votes_69 rfl ?_
          refine E_ic (v := 1) d_Mo_votes_71 (by decide) ?_
          refine E_iln 1 d_Mo_votes_72 rfl rfl ?_
          refine E_ishl d_Mo_votes_73 ?_
          refine E_ior d_Mo_votes_74 ?_
          obtain ⟨q6, eq6, hq⟩ := bd hq
          obtain ⟨p5, ep5, hq⟩ := bd hq
          refine E_cV1I d_Mo_votes_75 ck_Mo_489 rfl rfl eq6 (Nat.le_of_ble_eq_true rfl) (Nat.le_of_ble_eq_true rfl) (t_Mo_isMore (by omega) ep5) ?_
          refine E_zeq (tgt := 85) d_Mo_votes_78 (by decide) (fun c => ?_) (fun c => ?_)
          · rw [if_pos c] at hq
            refine E_inc (v := 1) (ls' := [(4, .int (x4 + 1)), (0, .ref a0), (1, .int x1), (3, .int x3)]) 3 d_Mo_votes_85 rfl (Nat.le_of_ble_eq_true rfl) (by decide) rfl ?_
            refine E_goto (tgt := 42) d_Mo_votes_88 (by decide) ?_
            exact E_sub (ks := [1, 2, 3, 0]) rfl <| ih _ _ _ _ _ _ hq
          · rw [if_neg c] at hq
            refine E_iln 2 d_Mo_votes_81 rfl rfl ?_
            refine E_ic (v := 1) d_Mo_votes_82 (by decide) ?_
            refine E_iadd d_Mo_votes_83 ?_
            refine E_isn (ls' := [(3, .int (x3 + 1)), (0, .ref a0), (1, .int x1), (4, .int x4)]) d_Mo_votes_84 (Nat.le_of_ble_eq_true rfl) rfl ?_
            refine E_inc (v := 1) (ls' := [(4, .int (x4 + 1)), (3, .int (x3 + 1)), (0, .ref a0), (1, .int x1)]) 3 d_Mo_votes_85 rfl (Nat.le_of_ble_eq_true rfl) (by decide) rfl ?_
            refine E_goto (tgt := 42) d_Mo_votes_88 (by decide) ?_
            exact E_sub (ks := [2, 3, 1, 0]) rfl <| ih _ _ _ _ _ _ hq
def f_Mo_votes (a0 : Nat) (x1 : Int32) (x2 : Int32) (h : PH) : Option (Int32 × PH) :=
  (stI h 9 a0 0 0).bind fun h1 =>
  (isO h1 9 a0).bind fun _ =>
  (f_Mo_isGate a0 x1 h1).bind fun p2 =>
  if p2.1 = 0 then
    some ((-1), p2.2)
  else
    (isO p2.2 9 a0).bind fun _ =>
    (f_Mo_isIn a0 x2 0 1 p2.2).bind fun p4 =>
    if p4.1 = 0 then
      some ((-1), p4.2)
    else
      if x2 = 0 then
        (isO p4.2 9 a0).bind fun _ =>
        (f_Mo_votesIn a0 (jshl 1 x1) p4.2).bind fun p6 =>
        some (p6.1, p6.2)
      else
        f_Mo_votes_42 FU a0 x1 0 0 p4.2
theorem t_Mo_votes {d : Nat} (hd : 3 ≤ d) {a0 : Nat} {x1 : Int32} {x2 : Int32} {h : PH} {r : Int32 × PH} (hq : f_Mo_votes a0 x1 x2 h = some r) : E d 0 0 m_Mo_votes 0 [(0, .ref a0), (1, .int x1), (2, .int x2)] [] h (PI r) := by
  unfold f_Mo_votes at hq
  obtain ⟨d, rfl⟩ : ∃ e, d = e + 1 := ⟨d - 1, by omega⟩
  refine E_aln 0 d_Mo_votes_0 rfl rfl ?_
  refine E_ic (v := 0) d_Mo_votes_1 (by decide) ?_
  obtain ⟨h1, eh1, hq⟩ := bd hq
  refine E_pI d_Mo_votes_2 lp_Mo_m_140 rfl eh1 ?_
  refine E_aln 0 d_Mo_votes_5 rfl rfl ?_
  refine E_iln 1 d_Mo_votes_6 rfl rfl ?_
  obtain ⟨q3, eq3, hq⟩ := bd hq
  obtain ⟨p2, ep2, hq⟩ := bd hq
  refine E_cV1I d_Mo_votes_7 ck_Mo_166 rfl rfl eq3 (Nat.le_of_ble_eq_true rfl) (Nat.le_of_ble_eq_true rfl) (t_Mo_isGate (by omega) ep2) ?_
  refine E_zeq (tgt := 23) d_Mo_votes_10 (by decide) (fun c => ?_) (fun c => ?_)
  · rw [if_pos c] at hq
    refine E_ic (v := (-1)) d_Mo_votes_23 (by decide) ?_
    exact E_rI d_Mo_votes_24 rfl hq
  · rw [if_neg c] at hq
    refine E_aln 0 d_Mo_votes_13 rfl rfl ?_
    refine E_iln 2 d_Mo_votes_14 rfl rfl ?_
    refine E_ic (v := 0) d_Mo_votes_15 (by decide) ?_
    refine E_ic (v := 1) d_Mo_votes_16 (by decide) ?_
    obtain ⟨q5, eq5, hq⟩ := bd hq
    obtain ⟨p4, ep4, hq⟩ := bd hq
    refine E_cV3I d_Mo_votes_17 ck_Mo_162 rfl rfl eq5 (Nat.le_of_ble_eq_true rfl) (Nat.le_of_ble_eq_true rfl) (t_Mo_isIn (by omega) ep4) ?_
    refine E_zne (tgt := 25) d_Mo_votes_20 (by decide) (fun c => ?_) (fun c => ?_)
    · rw [if_neg c] at hq
      refine E_iln 2 d_Mo_votes_25 rfl rfl ?_
      refine E_zne (tgt := 37) d_Mo_votes_26 (by decide) (fun c => ?_) (fun c => ?_)
      · rw [if_neg c] at hq
        refine E_ic (v := 0) d_Mo_votes_37 (by decide) ?_
        refine E_isn (ls' := [(3, .int 0), (0, .ref a0), (1, .int x1), (2, .int x2)]) d_Mo_votes_38 (Nat.le_of_ble_eq_true rfl) rfl ?_
        refine E_ic (v := 0) d_Mo_votes_39 (by decide) ?_
        refine E_is (ls' := [(4, .int 0), (3, .int 0), (0, .ref a0), (1, .int x1), (2, .int x2)]) d_Mo_votes_40 (Nat.le_of_ble_eq_true rfl) rfl ?_
        exact E_sub (ks := [2, 3, 1, 0]) rfl <| t_Mo_votes_42 (by omega) _ _ _ _ _ _ _ hq
      · rw [if_pos c] at hq
        refine E_aln 0 d_Mo_votes_29 rfl rfl ?_
        refine E_ic (v := 1) d_Mo_votes_30 (by decide) ?_
        refine E_iln 1 d_Mo_votes_31 rfl rfl ?_
        refine E_ishl d_Mo_votes_32 ?_
        obtain ⟨q7, eq7, hq⟩ := bd hq
        obtain ⟨p6, ep6, hq⟩ := bd hq
        refine E_cV1I d_Mo_votes_33 ck_Mo_486 rfl rfl eq7 (Nat.le_of_ble_eq_true rfl) (Nat.le_of_ble_eq_true rfl) (t_Mo_votesIn (by omega) ep6) ?_
        exact E_rI d_Mo_votes_36 rfl hq
    · rw [if_pos c] at hq
      refine E_ic (v := (-1)) d_Mo_votes_23 (by decide) ?_
      exact E_rI d_Mo_votes_24 rfl hq
def f_Mo_heapOf (a0 : Nat) (x1 : Int32) (h : PH) : Option (Int32 × PH) :=
  (ldR h 9 a0 1).bind fun v1 =>
  (rdA h v1 (73 + x1)).bind fun v2 =>
  (ldR h 9 a0 11).bind fun v3 =>
  (rdA h v3 x1).bind fun v4 =>
  (rmI v2 (v4 + 2)).bind fun v5 =>
  some (v5, h)
theorem t_Mo_heapOf {d : Nat} (hd : 0 ≤ d) {a0 : Nat} {x1 : Int32} {h : PH} {r : Int32 × PH} (hq : f_Mo_heapOf a0 x1 h = some r) : E d 0 0 m_Mo_heapOf 0 [(0, .ref a0), (1, .int x1)] [] h (PI r) := by
  unfold f_Mo_heapOf at hq
  refine E_aln 0 d_Mo_heapOf_0 rfl rfl ?_
  obtain ⟨v1, ev1, hq⟩ := bd hq
  refine E_gR d_Mo_heapOf_1 lk_Mo_7 rfl ev1 ?_
  refine E_bi (v := 73) d_Mo_heapOf_4 (by decide) ?_
  refine E_iln 1 d_Mo_heapOf_6 rfl rfl ?_
  refine E_iadd d_Mo_heapOf_7 ?_
  obtain ⟨v2, ev2, hq⟩ := bd hq
  refine E_ra d_Mo_heapOf_8 ev2 ?_
  refine E_aln 0 d_Mo_heapOf_9 rfl rfl ?_
  obtain ⟨v3, ev3, hq⟩ := bd hq
  refine E_gR d_Mo_heapOf_10 lk_Mo_28 rfl ev3 ?_
  refine E_iln 1 d_Mo_heapOf_13 rfl rfl ?_
  obtain ⟨v4, ev4, hq⟩ := bd hq
  refine E_ra d_Mo_heapOf_14 ev4 ?_
  refine E_ic (v := 2) d_Mo_heapOf_15 (by decide) ?_
  refine E_iadd d_Mo_heapOf_16 ?_
  obtain ⟨v5, ev5, hq⟩ := bd hq
  refine E_rm d_Mo_heapOf_17 ev5 ?_
  exact E_rI d_Mo_heapOf_18 rfl hq
def f_Mo_game_67 (k45 : Nat → Int32 → Int32 → Int32 → PH → Option (Int32 × PH)) : Nat → Nat → Int32 → Int32 → Int32 → Int32 → Int32 → PH → Option (Int32 × PH)
  | 0, _, _, _, _, _, _, _ => none
  | n + 1, a0, x1, x2, x3, x4, x5, h =>
    (ldR h 9 a0 11).bind fun v1 =>
    (rdA h v1 x3).bind fun v2 =>
    (isO h 9 a0).bind fun _ =>
    (f_Mo_lesser a0 x4 (v2 + 1) h).bind fun p3 =>
    if p3.1 < x5 then
      k45 a0 x1 x2 (x3 + 1) p3.2
    else
      (isO p3.2 9 a0).bind fun _ =>
      (f_Mo_heapOf a0 x3 p3.2).bind fun p5 =>
      (ldR p5.2 9 a0 11).bind fun v7 =>
      (rdA p5.2 v7 x3).bind fun v8 =>
      (rmI (x4 - x5) (v8 + 2)).bind fun v9 =>
      if (x2 ^^^ p5.1) = v9 then
        if x1 = 0 then
          some (x3, p5.2)
        else
          some (x5, p5.2)
      else
        f_Mo_game_67 k45 n a0 x1 x2 x3 x4 (x5 + 1) p5.2
theorem t_Mo_game_67 {d : Nat} (hd : 1 ≤ d) {k45 : Nat → Int32 → Int32 → Int32 → PH → Option (Int32 × PH)} (hk45 : ∀ (a0 : Nat) (x1 : Int32) (x2 : Int32) (x3 : Int32) (h : PH) (r : Int32 × PH), k45 a0 x1 x2 x3 h = some r → E d 0 0 m_Mo_game 45 [(0, .ref a0), (1, .int x1), (2, .int x2), (3, .int x3)] [] h (PI r)) : ∀ (n : Nat) (a0 : Nat) (x1 : Int32) (x2 : Int32) (x3 : Int32) (x4 : Int32) (x5 : Int32) (h : PH) (r : Int32 × PH), f_Mo_game_67 k45 n a0 x1 x2 x3 x4 x5 h = some r → E d 0 0 m_Mo_game 67 [(0, .ref a0), (1, .int x1), (2, .int x2), (3, .int x3), (4, .int x4), (5, .int x5)] [] h (PI r) := by
  intro n
  induction n with
  | zero => intro a0 x1 x2 x3 x4 x5 h r hq; rw [f_Mo_game_67] at hq; cases hq
  | succ n ih =>
    intro a0 x1 x2 x3 x4 x5 h r hq
    rw [f_Mo_game_67] at hq
    obtain ⟨d, rfl⟩ : ∃ e, d = e + 1 := ⟨d - 1, by omega⟩
    refine E_il 5 d_Mo_game_67 rfl ?_
    refine E_aln 0 d_Mo_game_69 rfl rfl ?_
    refine E_il 4 d_Mo_game_70 rfl ?_
    refine E_aln 0 d_Mo_game_72 rfl rfl ?_
    obtain ⟨v1, ev1, hq⟩ := bd hq
    refine E_gR d_Mo_game_73 lk_Mo_28 rfl ev1 ?_
    refine E_iln 3 d_Mo_game_76 rfl rfl ?_
    obtain ⟨v2, ev2, hq⟩ := bd hq
    refine E_ra d_Mo_game_77 ev2 ?_
    refine E_ic (v := 1) d_Mo_game_78 (by decide) ?_
    refine E_iadd d_Mo_game_79 ?_
    obtain ⟨q4, eq4, hq⟩ := bd hq
    obtain ⟨p3, ep3, hq⟩ := bd hq
    refine E_cV2I d_Mo_game_80 ck_Mo_369 rfl rfl eq4 (Nat.le_of_ble_eq_true rfl) (Nat.le_of_ble_eq_true rfl) (t_Mo_lesser (by omega) ep3) ?_
    refine E_jgt (tgt := 127) d_Mo_game_83 (by decide) (fun c => ?_) (fun c => ?_)
    · rw [if_pos c] at hq
      refine E_inc (v := 1) (ls' := [(3, .int (x3 + 1)), (0, .ref a0), (1, .int x1), (2, .int x2), (4, .int x4), (5, .int x5)]) 3 d_Mo_game_127 rfl (Nat.le_of_ble_eq_true rfl) (by decide) rfl ?_
      refine E_goto (tgt := 45) d_Mo_game_130 (by decide) ?_
      exact E_sub (ks := [1, 2, 3, 0]) rfl <| hk45 _ _ _ _ _ _ hq
    · rw [if_neg c] at hq
      refine E_iln 2 d_Mo_game_86 rfl rfl ?_
      refine E_aln 0 d_Mo_game_87 rfl rfl ?_
      refine E_iln 3 d_Mo_game_88 rfl rfl ?_
      obtain ⟨q6, eq6, hq⟩ := bd hq
      obtain ⟨p5, ep5, hq⟩ := bd hq
      refine E_cV1I d_Mo_game_89 ck_Mo_492 rfl rfl eq6 (Nat.le_of_ble_eq_true rfl) (Nat.le_of_ble_eq_true rfl) (t_Mo_heapOf (by omega) ep5) ?_
      refine E_ixor d_Mo_game_92 ?_
      refine E_il 4 d_Mo_game_93 rfl ?_
      refine E_il 5 d_Mo_game_95 rfl ?_
      refine E_isub d_Mo_game_97 ?_
      refine E_aln 0 d_Mo_game_98 rfl rfl ?_
      obtain ⟨v7, ev7, hq⟩ := bd hq
      refine E_gR d_Mo_game_99 lk_Mo_28 rfl ev7 ?_
      refine E_iln 3 d_Mo_game_102 rfl rfl ?_
      obtain ⟨v8, ev8, hq⟩ := bd hq
      refine E_ra d_Mo_game_103 ev8 ?_
      refine E_ic (v := 2) d_Mo_game_104 (by decide) ?_
      refine E_iadd d_Mo_game_105 ?_
      obtain ⟨v9, ev9, hq⟩ := bd hq
      refine E_rm d_Mo_game_106 ev9 ?_
      refine E_jne (tgt := 121) d_Mo_game_107 (by decide) (fun c => ?_) (fun c => ?_)
      · rw [if_neg c] at hq
        refine E_inc (v := 1) (ls' := [(5, .int (x5 + 1)), (0, .ref a0), (1, .int x1), (2, .int x2), (3, .int x3), (4, .int x4)]) 5 d_Mo_game_121 rfl (Nat.le_of_ble_eq_true rfl) (by decide) rfl ?_
        refine E_goto (tgt := 67) d_Mo_game_124 (by decide) ?_
        exact E_sub (ks := [1, 2, 3, 4, 5, 0]) rfl <| ih _ _ _ _ _ _ _ _ hq
      · rw [if_pos c] at hq
        refine E_iln 1 d_Mo_game_110 rfl rfl ?_
        refine E_zne (tgt := 118) d_Mo_game_111 (by decide) (fun c => ?_) (fun c => ?_)
        · rw [if_neg c] at hq
          refine E_il 5 d_Mo_game_118 rfl ?_
          exact E_rI d_Mo_game_120 rfl hq
        · rw [if_pos c] at hq
          refine E_iln 3 d_Mo_game_114 rfl rfl ?_
          refine E_goto (tgt := 120) d_Mo_game_115 (by decide) ?_
          exact E_rI d_Mo_game_120 rfl hq
def f_Mo_game_45 : Nat → Nat → Int32 → Int32 → Int32 → PH → Option (Int32 × PH)
  | 0, _, _, _, _, _ => none
  | n + 1, a0, x1, x2, x3, h =>
    (ldI h 9 a0 7).bind fun v1 =>
    if v1 ≤ x3 then
      some ((-1), h)
    else
      (ldR h 9 a0 1).bind fun v2 =>
      (rdA h v2 (73 + x3)).bind fun v3 =>
      f_Mo_game_67 (fun a0 x1 x2 x3 h => f_Mo_game_45 n a0 x1 x2 x3 h) FU a0 x1 x2 x3 v3 1 h
theorem t_Mo_game_45 {d : Nat} (hd : 1 ≤ d) : ∀ (n : Nat) (a0 : Nat) (x1 : Int32) (x2 : Int32) (x3 : Int32) (h : PH) (r : Int32 × PH), f_Mo_game_45 n a0 x1 x2 x3 h = some r → E d 0 0 m_Mo_game 45 [(0, .ref a0), (1, .int x1), (2, .int x2), (3, .int x3)] [] h (PI r) := by
  intro n
  induction n with
  | zero => intro a0 x1 x2 x3 h r hq; rw [f_Mo_game_45] at hq; cases hq
  | succ n ih =>
    intro a0 x1 x2 x3 h r hq
    rw [f_Mo_game_45] at hq
    obtain ⟨d, rfl⟩ : ∃ e, d = e + 1 := ⟨d - 1, by omega⟩
    refine E_iln 3 d_Mo_game_45 rfl rfl ?_
    refine E_aln 0 d_Mo_game_46 rfl rfl ?_
    obtain ⟨v1, ev1, hq⟩ := bd hq
    refine E_gI d_Mo_game_47 lk_Mo_155 rfl ev1 ?_
    refine E_jge (tgt := 133) d_Mo_game_50 (by decide) (fun c => ?_) (fun c => ?_)
    · rw [if_pos c] at hq
      refine E_ic (v := (-1)) d_Mo_game_133 (by decide) ?_
      exact E_rI d_Mo_game_134 rfl hq
    · rw [if_neg c] at hq
      refine E_aln 0 d_Mo_game_53 rfl rfl ?_
      obtain ⟨v2, ev2, hq⟩ := bd hq
      refine E_gR d_Mo_game_54 lk_Mo_7 rfl ev2 ?_
      refine E_bi (v := 73) d_Mo_game_57 (by decide) ?_
      refine E_iln 3 d_Mo_game_59 rfl rfl ?_
      refine E_iadd d_Mo_game_60 ?_
      obtain ⟨v3, ev3, hq⟩ := bd hq
      refine E_ra d_Mo_game_61 ev3 ?_
      refine E_is (ls' := [(4, .int v3), (0, .ref a0), (1, .int x1), (2, .int x2), (3, .int x3)]) d_Mo_game_62 (Nat.le_of_ble_eq_true rfl) rfl ?_
      refine E_ic (v := 1) d_Mo_game_64 (by decide) ?_
      refine E_is (ls' := [(5, .int 1), (4, .int v3), (0, .ref a0), (1, .int x1), (2, .int x2), (3, .int x3)]) d_Mo_game_65 (Nat.le_of_ble_eq_true rfl) rfl ?_
      exact E_sub (ks := [2, 3, 4, 5, 1, 0]) rfl <| t_Mo_game_67 (by omega) ih _ _ _ _ _ _ _ _ _ hq
def f_Mo_game_21 : Nat → Nat → Int32 → Int32 → Int32 → PH → Option (Int32 × PH)
  | 0, _, _, _, _, _ => none
  | n + 1, a0, x1, x2, x3, h =>
    (ldI h 9 a0 7).bind fun v1 =>
    if v1 ≤ x3 then
      f_Mo_game_45 FU a0 x1 x2 0 h
    else
      (isO h 9 a0).bind fun _ =>
      (f_Mo_heapOf a0 x3 h).bind fun p2 =>
      f_Mo_game_21 n a0 x1 (x2 ^^^ p2.1) (x3 + 1) p2.2
theorem t_Mo_game_21 {d : Nat} (hd : 1 ≤ d) : ∀ (n : Nat) (a0 : Nat) (x1 : Int32) (x2 : Int32) (x3 : Int32) (h : PH) (r : Int32 × PH), f_Mo_game_21 n a0 x1 x2 x3 h = some r → E d 0 0 m_Mo_game 21 [(0, .ref a0), (1, .int x1), (2, .int x2), (3, .int x3)] [] h (PI r) := by
  intro n
  induction n with
  | zero => intro a0 x1 x2 x3 h r hq; rw [f_Mo_game_21] at hq; cases hq
  | succ n ih =>
    intro a0 x1 x2 x3 h r hq
    rw [f_Mo_game_21] at hq
    obtain ⟨d, rfl⟩ : ∃ e, d = e + 1 := ⟨d - 1, by omega⟩
    refine E_iln 3 d_Mo_game_21 rfl rfl ?_
    refine E_aln 0 d_Mo_game_22 rfl rfl ?_
    obtain ⟨v1, ev1, hq⟩ := bd hq
    refine E_gI d_Mo_game_23 lk_Mo_155 rfl ev1 ?_
    refine E_jge (tgt := 43) d_Mo_game_26 (by decide) (fun c => ?_) (fun c => ?_)
    · rw [if_pos c] at hq
      refine E_ic (v := 0) d_Mo_game_43 (by decide) ?_
      refine E_isn (ls' := [(3, .int 0), (0, .ref a0), (1, .int x1), (2, .int x2)]) d_Mo_game_44 (Nat.le_of_ble_eq_true rfl) rfl ?_
      exact E_sub (ks := [1, 2, 3, 0]) rfl <| t_Mo_game_45 (by omega) _ _ _ _ _ _ _ hq
    · rw [if_neg c] at hq
      refine E_iln 2 d_Mo_game_29 rfl rfl ?_
      refine E_aln 0 d_Mo_game_30 rfl rfl ?_
      refine E_iln 3 d_Mo_game_31 rfl rfl ?_
      obtain ⟨q3, eq3, hq⟩ := bd hq
      obtain ⟨p2, ep2, hq⟩ := bd hq
      refine E_cV1I d_Mo_game_32 ck_Mo_492 rfl rfl eq3 (Nat.le_of_ble_eq_true rfl) (Nat.le_of_ble_eq_true rfl) (t_Mo_heapOf (by omega) ep2) ?_
      refine E_ixor d_Mo_game_35 ?_
      refine E_isn (ls' := [(2, .int (x2 ^^^ p2.1)), (0, .ref a0), (1, .int x1), (3, .int x3)]) d_Mo_game_36 (Nat.le_of_ble_eq_true rfl) rfl ?_
      refine E_inc (v := 1) (ls' := [(3, .int (x3 + 1)), (2, .int (x2 ^^^ p2.1)), (0, .ref a0), (1, .int x1)]) 3 d_Mo_game_37 rfl (Nat.le_of_ble_eq_true rfl) (by decide) rfl ?_
      refine E_goto (tgt := 21) d_Mo_game_40 (by decide) ?_
      exact E_sub (ks := [2, 3, 1, 0]) rfl <| ih _ _ _ _ _ _ hq
def f_Mo_game (a0 : Nat) (x1 : Int32) (h : PH) : Option (Int32 × PH) :=
  (stI h 9 a0 0 0).bind fun h1 =>
  (isO h1 9 a0).bind fun _ =>
  (f_Mo_isIn a0 x1 0 1 h1).bind fun p2 =>
  if p2.1 = 0 then
    some ((-1), p2.2)
  else
    f_Mo_game_21 FU a0 x1 0 0 p2.2
theorem t_Mo_game {d : Nat} (hd : 1 ≤ d) {a0 : Nat} {x1 : Int32} {h : PH} {r : Int32 × PH} (hq : f_Mo_game a0 x1 h = some r) : E d 0 0 m_Mo_game 0 [(0, .ref a0), (1, .int x1)] [] h (PI r) := by
  unfold f_Mo_game at hq
  obtain ⟨d, rfl⟩ : ∃ e, d = e + 1 := ⟨d - 1, by omega⟩
  refine E_aln 0 d_Mo_game_0 rfl rfl ?_
  refine E_ic (v := 0) d_Mo_game_1 (by decide) ?_
  obtain ⟨h1, eh1, hq⟩ := bd hq
  refine E_pI d_Mo_game_2 lp_Mo_m_140 rfl eh1 ?_
  refine E_aln 0 d_Mo_game_5 rfl rfl ?_
  refine E_iln 1 d_Mo_game_6 rfl rfl ?_
  refine E_ic (v := 0) d_Mo_game_7 (by decide) ?_
  refine E_ic (v := 1) d_Mo_game_8 (by decide) ?_
  obtain ⟨q3, eq3, hq⟩ := bd hq
  obtain ⟨p2, ep2, hq⟩ := bd hq
  refine E_cV3I d_Mo_game_9 ck_Mo_162 rfl rfl eq3 (Nat.le_of_ble_eq_true rfl) (Nat.le_of_ble_eq_true rfl) (t_Mo_isIn (by omega) ep2) ?_
  refine E_zne (tgt := 17) d_Mo_game_12 (by decide) (fun c => ?_) (fun c => ?_)
  · rw [if_neg c] at hq
    refine E_ic (v := 0) d_Mo_game_17 (by decide) ?_
    refine E_isn (ls' := [(2, .int 0), (0, .ref a0), (1, .int x1)]) d_Mo_game_18 (Nat.le_of_ble_eq_true rfl) rfl ?_
    refine E_ic (v := 0) d_Mo_game_19 (by decide) ?_
    refine E_isn (ls' := [(3, .int 0), (2, .int 0), (0, .ref a0), (1, .int x1)]) d_Mo_game_20 (Nat.le_of_ble_eq_true rfl) rfl ?_
    exact E_sub (ks := [2, 3, 1, 0]) rfl <| t_Mo_game_21 (by omega) _ _ _ _ _ _ _ hq
  · rw [if_pos c] at hq
    refine E_ic (v := (-1)) d_Mo_game_15 (by decide) ?_
    exact E_rI d_Mo_game_16 rfl hq
def f_Mo_keeps (a0 : Nat) (x1 : Int32) (h : PH) : Option (Int32 × PH) :=
  (ldI h 9 a0 72).bind fun v1 =>
  (stI h 9 a0 72 (v1 + 1)).bind fun h2 =>
  (ldI h2 9 a0 70).bind fun v3 =>
  if v3 = 0 then
    (ldR h2 9 a0 73).bind fun v7 =>
    (ldI h2 9 a0 72).bind fun v8 =>
    (rdA h2 v7 (v8 - 1)).bind fun v9 =>
    some (v9, h2)
  else
    (ldR h2 9 a0 73).bind fun v4 =>
    (ldI h2 9 a0 72).bind fun v5 =>
    (wrA h2 v4 (v5 - 1) x1).bind fun h6 =>
    some (x1, h6)
theorem t_Mo_keeps {d : Nat} (hd : 0 ≤ d) {a0 : Nat} {x1 : Int32} {h : PH} {r : Int32 × PH} (hq : f_Mo_keeps a0 x1 h = some r) : E d 0 0 m_Mo_keeps 0 [(0, .ref a0), (1, .int x1)] [] h (PI r) := by
  unfold f_Mo_keeps at hq
  refine E_aln 0 d_Mo_keeps_0 rfl rfl ?_
  refine E_aln 0 d_Mo_keeps_1 rfl rfl ?_
  obtain ⟨v1, ev1, hq⟩ := bd hq
  refine E_gI d_Mo_keeps_2 lk_Mo_495 rfl ev1 ?_
  refine E_ic (v := 1) d_Mo_keeps_5 (by decide) ?_
  refine E_iadd d_Mo_keeps_6 ?_
  obtain ⟨h2, eh2, hq⟩ := bd hq
  refine E_pI d_Mo_keeps_7 lp_Mo_m_495 rfl eh2 ?_
  refine E_aln 0 d_Mo_keeps_10 rfl rfl ?_
  obtain ⟨v3, ev3, hq⟩ := bd hq
  refine E_gI d_Mo_keeps_11 lk_Mo_498 rfl ev3 ?_
  refine E_zne (tgt := 29) d_Mo_keeps_14 (by decide) (fun c => ?_) (fun c => ?_)
  · rw [if_neg c] at hq
    refine E_aln 0 d_Mo_keeps_29 rfl rfl ?_
    obtain ⟨v4, ev4, hq⟩ := bd hq
    refine E_gR d_Mo_keeps_30 lk_Mo_137 rfl ev4 ?_
    refine E_aln 0 d_Mo_keeps_33 rfl rfl ?_
    obtain ⟨v5, ev5, hq⟩ := bd hq
    refine E_gI d_Mo_keeps_34 lk_Mo_495 rfl ev5 ?_
    refine E_ic (v := 1) d_Mo_keeps_37 (by decide) ?_
    refine E_isub d_Mo_keeps_38 ?_
    refine E_iln 1 d_Mo_keeps_39 rfl rfl ?_
    obtain ⟨h6, eh6, hq⟩ := bd hq
    refine E_wa d_Mo_keeps_40 eh6 ?_
    refine E_iln 1 d_Mo_keeps_41 rfl rfl ?_
    exact E_rI d_Mo_keeps_42 rfl hq
  · rw [if_pos c] at hq
    refine E_aln 0 d_Mo_keeps_17 rfl rfl ?_
    obtain ⟨v7, ev7, hq⟩ := bd hq
    refine E_gR d_Mo_keeps_18 lk_Mo_137 rfl ev7 ?_
    refine E_aln 0 d_Mo_keeps_21 rfl rfl ?_
    obtain ⟨v8, ev8, hq⟩ := bd hq
    refine E_gI d_Mo_keeps_22 lk_Mo_495 rfl ev8 ?_
    refine E_ic (v := 1) d_Mo_keeps_25 (by decide) ?_
    refine E_isub d_Mo_keeps_26 ?_
    obtain ⟨v9, ev9, hq⟩ := bd hq
    refine E_ra d_Mo_keeps_27 ev9 ?_
    exact E_rI d_Mo_keeps_28 rfl hq
def f_Mo_keepsMany (a0 : Nat) (h : PH) : Option (PH) :=
  (ldI h 9 a0 6).bind fun v1 =>
  (isO h 9 a0).bind fun _ =>
  (f_Mo_keeps a0 v1 h).bind fun p2 =>
  (stI p2.2 9 a0 6 p2.1).bind fun h4 =>
  (ldI h4 9 a0 7).bind fun v5 =>
  (isO h4 9 a0).bind fun _ =>
  (f_Mo_keeps a0 v5 h4).bind fun p6 =>
  (stI p6.2 9 a0 7 p6.1).bind fun h8 =>
  (ldI h8 9 a0 36).bind fun v9 =>
  (isO h8 9 a0).bind fun _ =>
  (f_Mo_keeps a0 v9 h8).bind fun p10 =>
  (stI p10.2 9 a0 36 p10.1).bind fun h12 =>
  (ldI h12 9 a0 38).bind fun v13 =>
  (isO h12 9 a0).bind fun _ =>
  (f_Mo_keeps a0 v13 h12).bind fun p14 =>
  (stI p14.2 9 a0 38 p14.1).bind fun h16 =>
  (ldI h16 9 a0 40).bind fun v17 =>
  (isO h16 9 a0).bind fun _ =>
  (f_Mo_keeps a0 v17 h16).bind fun p18 =>
  (stI p18.2 9 a0 40 p18.1).bind fun h20 =>
  (ldI h20 9 a0 44).bind fun v21 =>
  (isO h20 9 a0).bind fun _ =>
  (f_Mo_keeps a0 v21 h20).bind fun p22 =>
  (stI p22.2 9 a0 44 p22.1).bind fun h24 =>
  (ldI h24 9 a0 48).bind fun v25 =>
  (isO h24 9 a0).bind fun _ =>
  (f_Mo_keeps a0 v25 h24).bind fun p26 =>
  (stI p26.2 9 a0 48 p26.1).bind fun h28 =>
  (ldI h28 9 a0 52).bind fun v29 =>
  (isO h28 9 a0).bind fun _ =>
  (f_Mo_keeps a0 v29 h28).bind fun p30 =>
  (stI p30.2 9 a0 52 p30.1).bind fun h32 =>
  (ldI h32 9 a0 55).bind fun v33 =>
  (isO h32 9 a0).bind fun _ =>
  (f_Mo_keeps a0 v33 h32).bind fun p34 =>
  (stI p34.2 9 a0 55 p34.1).bind fun h36 =>
  (ldI h36 9 a0 56).bind fun v37 =>
  (isO h36 9 a0).bind fun _ =>
  (f_Mo_keeps a0 v37 h36).bind fun p38 =>
  (stI p38.2 9 a0 56 p38.1).bind fun h40 =>
  (ldI h40 9 a0 63).bind fun v41 =>
  (isO h40 9 a0).bind fun _ =>
  (f_Mo_keeps a0 v41 h40).bind fun p42 =>
  (stI p42.2 9 a0 63 p42.1).bind fun h44 =>
  (ldI h44 9 a0 68).bind fun v45 =>
  (isO h44 9 a0).bind fun _ =>
  (f_Mo_keeps a0 v45 h44).bind fun p46 =>
  (stI p46.2 9 a0 68 p46.1).bind fun h48 =>
  (ldI h48 9 a0 69).bind fun v49 =>
  (isO h48 9 a0).bind fun _ =>
  (f_Mo_keeps a0 v49 h48).bind fun p50 =>
  (stI p50.2 9 a0 69 p50.1).bind fun h52 =>
  some h52
theorem t_Mo_keepsMany {d : Nat} (hd : 1 ≤ d) {a0 : Nat} {h : PH} {r : PH} (hq : f_Mo_keepsMany a0 h = some r) : E d 0 0 m_Mo_keepsMany 0 [(0, .ref a0)] [] h (PV r) := by
  unfold f_Mo_keepsMany at hq
  obtain ⟨d, rfl⟩ : ∃ e, d = e + 1 := ⟨d - 1, by omega⟩
  refine E_aln 0 d_Mo_keepsMany_0 rfl rfl ?_
  refine E_aln 0 d_Mo_keepsMany_1 rfl rfl ?_
  refine E_aln 0 d_Mo_keepsMany_2 rfl rfl ?_
  obtain ⟨v1, ev1, hq⟩ := bd hq
  refine E_gI d_Mo_keepsMany_3 lk_Mo_152 rfl ev1 ?_
  obtain ⟨q3, eq3, hq⟩ := bd hq
  obtain ⟨p2, ep2, hq⟩ := bd hq
  refine E_cV1I d_Mo_keepsMany_6 ck_Mo_501 rfl rfl eq3 (Nat.le_of_ble_eq_true rfl) (Nat.le_of_ble_eq_true rfl) (t_Mo_keeps (by omega) ep2) ?_
  obtain ⟨h4, eh4, hq⟩ := bd hq
  refine E_pI d_Mo_keepsMany_9 lp_Mo_m_152 rfl eh4 ?_
  refine E_aln 0 d_Mo_keepsMany_12 rfl rfl ?_
  refine E_aln 0 d_Mo_keepsMany_13 rfl rfl ?_
  refine E_aln 0 d_Mo_keepsMany_14 rfl rfl ?_
  obtain ⟨v5, ev5, hq⟩ := bd hq
  refine E_gI d_Mo_keepsMany_15 lk_Mo_155 rfl ev5 ?_
  obtain ⟨q7, eq7, hq⟩ := bd hq
  obtain ⟨p6, ep6, hq⟩ := bd hq
  refine E_cV1I d_Mo_keepsMany_18 ck_Mo_501 rfl rfl eq7 (Nat.le_of_ble_eq_true rfl) (Nat.le_of_ble_eq_true rfl) (t_Mo_keeps (by omega) ep6) ?_
  obtain ⟨h8, eh8, hq⟩ := bd hq
  refine E_pI d_Mo_keepsMany_21 lp_Mo_m_155 rfl eh8 ?_
  refine E_aln 0 d_Mo_keepsMany_24 rfl rfl ?_
  refine E_aln 0 d_Mo_keepsMany_25 rfl rfl ?_
  refine E_aln 0 d_Mo_keepsMany_26 rfl rfl ?_
  obtain ⟨v9, ev9, hq⟩ := bd hq
  refine E_gI d_Mo_keepsMany_27 lk_Mo_312 rfl ev9 ?_
  obtain ⟨q11, eq11, hq⟩ := bd hq
  obtain ⟨p10, ep10, hq⟩ := bd hq
  refine E_cV1I d_Mo_keepsMany_30 ck_Mo_501 rfl rfl eq11 (Nat.le_of_ble_eq_true rfl) (Nat.le_of_ble_eq_true rfl) (t_Mo_keeps (by omega) ep10) ?_
  obtain ⟨h12, eh12, hq⟩ := bd hq
  refine E_pI d_Mo_keepsMany_33 lp_Mo_m_312 rfl eh12 ?_
  refine E_aln 0 d_Mo_keepsMany_36 rfl rfl ?_
  refine E_aln 0 d_Mo_keepsMany_37 rfl rfl ?_
  refine E_aln 0 d_Mo_keepsMany_38 rfl rfl ?_
  obtain ⟨v13, ev13, hq⟩ := bd hq
  refine E_gI d_Mo_keepsMany_39 lk_Mo_315 rfl ev13 ?_
  obtain ⟨q15, eq15, hq⟩ := bd hq
  obtain ⟨p14, ep14, hq⟩ := bd hq
  refine E_cV1I d_Mo_keepsMany_42 ck_Mo_501 rfl rfl eq15 (Nat.le_of_ble_eq_true rfl) (Nat.le_of_ble_eq_true rfl) (t_Mo_keeps (by omega) ep14) ?_
  obtain ⟨h16, eh16, hq⟩ := bd hq
  refine E_pI d_Mo_keepsMany_45 lp_Mo_m_315 rfl eh16 ?_
  refine E_aln 0 d_Mo_keepsMany_48 rfl rfl ?_
  refine E_aln 0 d_Mo_keepsMany_49 rfl rfl ?_
  refine E_aln 0 d_Mo_keepsMany_50 rfl rfl ?_
  obtain ⟨v17, ev17, hq⟩ := bd hq
  refine E_gI d_Mo_keepsMany_51 lk_Mo_318 rfl ev17 ?_
  obtain ⟨q19, eq19, hq⟩ := bd hq
  obtain ⟨p18, ep18, hq⟩ := bd hq
  refine E_cV1I d_Mo_keepsMany_54 ck_Mo_501 rfl rfl eq19 (Nat.le_of_ble_eq_true rfl) (Nat.le_of_ble_eq_true rfl) (t_Mo_keeps (by omega) ep18) ?_
  obtain ⟨h20, eh20, hq⟩ := bd hq
  refine E_pI d_Mo_keepsMany_57 lp_Mo_m_318 rfl eh20 ?_
  refine E_aln 0 d_Mo_keepsMany_60 rfl rfl ?_
  refine E_aln 0 d_Mo_keepsMany_61 rfl rfl ?_
  refine E_aln 0 d_Mo_keepsMany_62 rfl rfl ?_
  obtain ⟨v21, ev21, hq⟩ := bd hq
  refine E_gI d_Mo_keepsMany_63 lk_Mo_415 rfl ev21 ?_
  obtain ⟨q23, eq23, hq⟩ := bd hq
  obtain ⟨p22, ep22, hq⟩ := bd hq
  refine E_cV1I d_Mo_keepsMany_66 ck_Mo_501 rfl rfl eq23 (Nat.le_of_ble_eq_true rfl) (Nat.le_of_ble_eq_true rfl) (t_Mo_keeps (by omega) ep22) ?_
  obtain ⟨h24, eh24, hq⟩ := bd hq
  refine E_pI d_Mo_keepsMany_69 lp_Mo_m_415 rfl eh24 ?_
  refine E_aln 0 d_Mo_keepsMany_72 rfl rfl ?_
  refine E_aln 0 d_Mo_keepsMany_73 rfl rfl ?_
  refine E_aln 0 d_Mo_keepsMany_74 rfl rfl ?_
  obtain ⟨v25, ev25, hq⟩ := bd hq
  refine E_gI d_Mo_keepsMany_75 lk_Mo_421 rfl ev25 ?_
  obtain ⟨q27, eq27, hq⟩ := bd hq
  obtain ⟨p26, ep26, hq⟩ := bd hq
  refine E_cV1I d_Mo_keepsMany_78 ck_Mo_501 rfl rfl eq27 (Nat.le_of_ble_eq_true rfl) (Nat.le_of_ble_eq_true rfl) (t_Mo_keeps (by omega) ep26) ?_
  obtain ⟨h28, eh28, hq⟩ := bd hq
  refine E_pI d_Mo_keepsMany_81 lp_Mo_m_421 rfl eh28 ?_
  refine E_aln 0 d_Mo_keepsMany_84 rfl rfl ?_
  refine E_aln 0 d_Mo_keepsMany_85 rfl rfl ?_
  refine E_aln 0 d_Mo_keepsMany_86 rfl rfl ?_
  obtain ⟨v29, ev29, hq⟩ := bd hq
  refine E_gI d_Mo_keepsMany_87 lk_Mo_427 rfl ev29 ?_
  obtain ⟨q31, eq31, hq⟩ := bd hq
  obtain ⟨p30, ep30, hq⟩ := bd hq
  refine E_cV1I d_Mo_keepsMany_90 ck_Mo_501 rfl rfl eq31 (Nat.le_of_ble_eq_true rfl) (Nat.le_of_ble_eq_true rfl) (t_Mo_keeps (by omega) ep30) ?_
  obtain ⟨h32, eh32, hq⟩ := bd hq
  refine E_pI d_Mo_keepsMany_93 lp_Mo_m_427 rfl eh32 ?_
  refine E_aln 0 d_Mo_keepsMany_96 rfl rfl ?_
  refine E_aln 0 d_Mo_keepsMany_97 rfl rfl ?_
  refine E_aln 0 d_Mo_keepsMany_98 rfl rfl ?_
  obtain ⟨v33, ev33, hq⟩ := bd hq
  refine E_gI d_Mo_keepsMany_99 lk_Mo_440 rfl ev33 ?_
  obtain ⟨q35, eq35, hq⟩ := bd hq
  obtain ⟨p34, ep34, hq⟩ := bd hq
  refine E_cV1I d_Mo_keepsMany_102 ck_Mo_501 rfl rfl eq35 (Nat.le_of_ble_eq_true rfl) (Nat.le_of_ble_eq_true rfl) (t_Mo_keeps (by omega) ep34) ?_
  obtain ⟨h36, eh36, hq⟩ := bd hq
  refine E_pI d_Mo_keepsMany_105 lp_Mo_m_440 rfl eh36 ?_
  refine E_aln 0 d_Mo_keepsMany_108 rfl rfl ?_
  refine E_aln 0 d_Mo_keepsMany_109 rfl rfl ?_
  refine E_aln 0 d_Mo_keepsMany_110 rfl rfl ?_
  obtain ⟨v37, ev37, hq⟩ := bd hq
  refine E_gI d_Mo_keepsMany_111 lk_Mo_443 rfl ev37 ?_
  obtain ⟨q39, eq39, hq⟩ := bd hq
  obtain ⟨p38, ep38, hq⟩ := bd hq
  refine E_cV1I d_Mo_keepsMany_114 ck_Mo_501 rfl rfl eq39 (Nat.le_of_ble_eq_true rfl) (Nat.le_of_ble_eq_true rfl) (t_Mo_keeps (by omega) ep38) ?_
  obtain ⟨h40, eh40, hq⟩ := bd hq
  refine E_pI d_Mo_keepsMany_117 lp_Mo_m_443 rfl eh40 ?_
  refine E_aln 0 d_Mo_keepsMany_120 rfl rfl ?_
  refine E_aln 0 d_Mo_keepsMany_121 rfl rfl ?_
  refine E_aln 0 d_Mo_keepsMany_122 rfl rfl ?_
  obtain ⟨v41, ev41, hq⟩ := bd hq
  refine E_gI d_Mo_keepsMany_123 lk_Mo_468 rfl ev41 ?_
  obtain ⟨q43, eq43, hq⟩ := bd hq
  obtain ⟨p42, ep42, hq⟩ := bd hq
  refine E_cV1I d_Mo_keepsMany_126 ck_Mo_501 rfl rfl eq43 (Nat.le_of_ble_eq_true rfl) (Nat.le_of_ble_eq_true rfl) (t_Mo_keeps (by omega) ep42) ?_
  obtain ⟨h44, eh44, hq⟩ := bd hq
  refine E_pI d_Mo_keepsMany_129 lp_Mo_m_468 rfl eh44 ?_
  refine E_aln 0 d_Mo_keepsMany_132 rfl rfl ?_
  refine E_aln 0 d_Mo_keepsMany_133 rfl rfl ?_
  refine E_aln 0 d_Mo_keepsMany_134 rfl rfl ?_
  obtain ⟨v45, ev45, hq⟩ := bd hq
  refine E_gI d_Mo_keepsMany_135 lk_Mo_480 rfl ev45 ?_
  obtain ⟨q47, eq47, hq⟩ := bd hq
  obtain ⟨p46, ep46, hq⟩ := bd hq
  refine E_cV1I d_Mo_keepsMany_138 ck_Mo_501 rfl rfl eq47 (Nat.le_of_ble_eq_true rfl) (Nat.le_of_ble_eq_true rfl) (t_Mo_keeps (by omega) ep46) ?_
  obtain ⟨h48, eh48, hq⟩ := bd hq
  refine E_pI d_Mo_keepsMany_141 lp_Mo_m_480 rfl eh48 ?_
  refine E_aln 0 d_Mo_keepsMany_144 rfl rfl ?_
  refine E_aln 0 d_Mo_keepsMany_145 rfl rfl ?_
  refine E_aln 0 d_Mo_keepsMany_146 rfl rfl ?_
  obtain ⟨v49, ev49, hq⟩ := bd hq
  refine E_gI d_Mo_keepsMany_147 lk_Mo_483 rfl ev49 ?_
  obtain ⟨q51, eq51, hq⟩ := bd hq
  obtain ⟨p50, ep50, hq⟩ := bd hq
  refine E_cV1I d_Mo_keepsMany_150 ck_Mo_501 rfl rfl eq51 (Nat.le_of_ble_eq_true rfl) (Nat.le_of_ble_eq_true rfl) (t_Mo_keeps (by omega) ep50) ?_
  obtain ⟨h52, eh52, hq⟩ := bd hq
  refine E_pI d_Mo_keepsMany_153 lp_Mo_m_483 rfl eh52 ?_
  exact E_rV d_Mo_keepsMany_156 rfl hq
def f_Mo_keepsTold_358 : Nat → Nat → Int32 → PH → Option (PH)
  | 0, _, _, _ => none
  | n + 1, a0, x1, h =>
    if 64 ≤ x1 then
      some h
    else
      (ldR h 9 a0 41).bind fun v1 =>
      (ldR h 9 a0 41).bind fun v2 =>
      (rdA h v2 x1).bind fun v3 =>
      (isO h 9 a0).bind fun _ =>
      (f_Mo_keeps a0 v3 h).bind fun p4 =>
      (wrA p4.2 v1 x1 p4.1).bind fun h6 =>
      f_Mo_keepsTold_358 n a0 (x1 + 1) h6
theorem t_Mo_keepsTold_358 {d : Nat} (hd : 1 ≤ d) : ∀ (n : Nat) (a0 : Nat) (x1 : Int32) (h : PH) (r : PH), f_Mo_keepsTold_358 n a0 x1 h = some r → E d 0 0 m_Mo_keepsTold 358 [(0, .ref a0), (1, .int x1)] [] h (PV r) := by
  intro n
  induction n with
  | zero => intro a0 x1 h r hq; rw [f_Mo_keepsTold_358] at hq; cases hq
  | succ n ih =>
    intro a0 x1 h r hq
    rw [f_Mo_keepsTold_358] at hq
    obtain ⟨d, rfl⟩ : ∃ e, d = e + 1 := ⟨d - 1, by omega⟩
    refine E_iln 1 d_Mo_keepsTold_358 rfl rfl ?_
    refine E_bi (v := 64) d_Mo_keepsTold_359 (by decide) ?_
    refine E_jge (tgt := 386) d_Mo_keepsTold_361 (by decide) (fun c => ?_) (fun c => ?_)
    · rw [if_pos c] at hq
      exact E_rV d_Mo_keepsTold_386 rfl hq
    · rw [if_neg c] at hq
      refine E_aln 0 d_Mo_keepsTold_364 rfl rfl ?_
      obtain ⟨v1, ev1, hq⟩ := bd hq
      refine E_gR d_Mo_keepsTold_365 lk_Mo_74 rfl ev1 ?_
      refine E_iln 1 d_Mo_keepsTold_368 rfl rfl ?_
      refine E_aln 0 d_Mo_keepsTold_369 rfl rfl ?_
      refine E_aln 0 d_Mo_keepsTold_370 rfl rfl ?_
      obtain ⟨v2, ev2, hq⟩ := bd hq
      refine E_gR d_Mo_keepsTold_371 lk_Mo_74 rfl ev2 ?_
      refine E_iln 1 d_Mo_keepsTold_374 rfl rfl ?_
      obtain ⟨v3, ev3, hq⟩ := bd hq
      refine E_ra d_Mo_keepsTold_375 ev3 ?_
      obtain ⟨q5, eq5, hq⟩ := bd hq
      obtain ⟨p4, ep4, hq⟩ := bd hq
      refine E_cV1I d_Mo_keepsTold_376 ck_Mo_501 rfl rfl eq5 (Nat.le_of_ble_eq_true rfl) (Nat.le_of_ble_eq_true rfl) (t_Mo_keeps (by omega) ep4) ?_
      obtain ⟨h6, eh6, hq⟩ := bd hq
      refine E_wa d_Mo_keepsTold_379 eh6 ?_
      refine E_inc (v := 1) (ls' := [(1, .int (x1 + 1)), (0, .ref a0)]) 1 d_Mo_keepsTold_380 rfl (Nat.le_of_ble_eq_true rfl) (by decide) rfl ?_
      refine E_goto (tgt := 358) d_Mo_keepsTold_383 (by decide) ?_
      exact E_sub (ks := [1, 0]) rfl <| ih _ _ _ _ hq
def f_Mo_keepsTold_328 : Nat → Nat → Int32 → PH → Option (PH)
  | 0, _, _, _ => none
  | n + 1, a0, x1, h =>
    if 64 ≤ x1 then
      f_Mo_keepsTold_358 FU a0 0 h
    else
      (ldR h 9 a0 39).bind fun v1 =>
      (ldR h 9 a0 39).bind fun v2 =>
      (rdA h v2 x1).bind fun v3 =>
      (isO h 9 a0).bind fun _ =>
      (f_Mo_keeps a0 v3 h).bind fun p4 =>
      (wrA p4.2 v1 x1 p4.1).bind fun h6 =>
      f_Mo_keepsTold_328 n a0 (x1 + 1) h6
theorem t_Mo_keepsTold_328 {d : Nat} (hd : 1 ≤ d) : ∀ (n : Nat) (a0 : Nat) (x1 : Int32) (h : PH) (r : PH), f_Mo_keepsTold_328 n a0 x1 h = some r → E d 0 0 m_Mo_keepsTold 328 [(0, .ref a0), (1, .int x1)] [] h (PV r) := by
  intro n
  induction n with
  | zero => intro a0 x1 h r hq; rw [f_Mo_keepsTold_328] at hq; cases hq
  | succ n ih =>
    intro a0 x1 h r hq
    rw [f_Mo_keepsTold_328] at hq
    obtain ⟨d, rfl⟩ : ∃ e, d = e + 1 := ⟨d - 1, by omega⟩
    refine E_iln 1 d_Mo_keepsTold_328 rfl rfl ?_
    refine E_bi (v := 64) d_Mo_keepsTold_329 (by decide) ?_
    refine E_jge (tgt := 356) d_Mo_keepsTold_331 (by decide) (fun c => ?_) (fun c => ?_)
    · rw [if_pos c] at hq
      refine E_ic (v := 0) d_Mo_keepsTold_356 (by decide) ?_
      refine E_isn (ls' := [(1, .int 0), (0, .ref a0)]) d_Mo_keepsTold_357 (Nat.le_of_ble_eq_true rfl) rfl ?_
      exact E_sub (ks := [1, 0]) rfl <| t_Mo_keepsTold_358 (by omega) _ _ _ _ _ hq
    · rw [if_neg c] at hq
      refine E_aln 0 d_Mo_keepsTold_334 rfl rfl ?_
      obtain ⟨v1, ev1, hq⟩ := bd hq
      refine E_gR d_Mo_keepsTold_335 lk_Mo_71 rfl ev1 ?_
      refine E_iln 1 d_Mo_keepsTold_338 rfl rfl ?_
      refine E_aln 0 d_Mo_keepsTold_339 rfl rfl ?_
      refine E_aln 0 d_Mo_keepsTold_340 rfl rfl ?_
      obtain ⟨v2, ev2, hq⟩ := bd hq
      refine E_gR d_Mo_keepsTold_341 lk_Mo_71 rfl ev2 ?_
      refine E_iln 1 d_Mo_keepsTold_344 rfl rfl ?_
      obtain ⟨v3, ev3, hq⟩ := bd hq
      refine E_ra d_Mo_keepsTold_345 ev3 ?_
      obtain ⟨q5, eq5, hq⟩ := bd hq
      obtain ⟨p4, ep4, hq⟩ := bd hq
      refine E_cV1I d_Mo_keepsTold_346 ck_Mo_501 rfl rfl eq5 (Nat.le_of_ble_eq_true rfl) (Nat.le_of_ble_eq_true rfl) (t_Mo_keeps (by omega) ep4) ?_
      obtain ⟨h6, eh6, hq⟩ := bd hq
      refine E_wa d_Mo_keepsTold_349 eh6 ?_
      refine E_inc (v := 1) (ls' := [(1, .int (x1 + 1)), (0, .ref a0)]) 1 d_Mo_keepsTold_350 rfl (Nat.le_of_ble_eq_true rfl) (by decide) rfl ?_
      refine E_goto (tgt := 328) d_Mo_keepsTold_353 (by decide) ?_
      exact E_sub (ks := [1, 0]) rfl <| ih _ _ _ _ hq
def f_Mo_keepsTold_282 : Nat → Nat → Int32 → PH → Option (PH)
  | 0, _, _, _ => none
  | n + 1, a0, x1, h =>
    if 24 ≤ x1 then
      f_Mo_keepsTold_328 FU a0 0 h
    else
      (ldR h 9 a0 62).bind fun v1 =>
      (ldR h 9 a0 62).bind fun v2 =>
      (rdA h v2 x1).bind fun v3 =>
      (isO h 9 a0).bind fun _ =>
      (f_Mo_keeps a0 v3 h).bind fun p4 =>
      (wrA p4.2 v1 x1 p4.1).bind fun h6 =>
      (ldR h6 9 a0 67).bind fun v7 =>
      (ldR h6 9 a0 67).bind fun v8 =>
      (rdA h6 v8 x1).bind fun v9 =>
      (isO h6 9 a0).bind fun _ =>
      (f_Mo_keeps a0 v9 h6).bind fun p10 =>
      (wrA p10.2 v7 x1 p10.1).bind fun h12 =>
      f_Mo_keepsTold_282 n a0 (x1 + 1) h12
theorem t_Mo_keepsTold_282 {d : Nat} (hd : 1 ≤ d) : ∀ (n : Nat) (a0 : Nat) (x1 : Int32) (h : PH) (r : PH), f_Mo_keepsTold_282 n a0 x1 h = some r → E d 0 0 m_Mo_keepsTold 282 [(0, .ref a0), (1, .int x1)] [] h (PV r) := by
  intro n
  induction n with
  | zero => intro a0 x1 h r hq; rw [f_Mo_keepsTold_282] at hq; cases hq
  | succ n ih =>
    intro a0 x1 h r hq
    rw [f_Mo_keepsTold_282] at hq
    obtain ⟨d, rfl⟩ : ∃ e, d = e + 1 := ⟨d - 1, by omega⟩
    refine E_iln 1 d_Mo_keepsTold_282 rfl rfl ?_
    refine E_bi (v := 24) d_Mo_keepsTold_283 (by decide) ?_
    refine E_jge (tgt := 326) d_Mo_keepsTold_285 (by decide) (fun c => ?_) (fun c => ?_)
    · rw [if_pos c] at hq
      refine E_ic (v := 0) d_Mo_keepsTold_326 (by decide) ?_
      refine E_isn (ls' := [(1, .int 0), (0, .ref a0)]) d_Mo_keepsTold_327 (Nat.le_of_ble_eq_true rfl) rfl ?_
      exact E_sub (ks := [1, 0]) rfl <| t_Mo_keepsTold_328 (by omega) _ _ _ _ _ hq
    · rw [if_neg c] at hq
      refine E_aln 0 d_Mo_keepsTold_288 rfl rfl ?_
      obtain ⟨v1, ev1, hq⟩ := bd hq
      refine E_gR d_Mo_keepsTold_289 lk_Mo_122 rfl ev1 ?_
      refine E_iln 1 d_Mo_keepsTold_292 rfl rfl ?_
      refine E_aln 0 d_Mo_keepsTold_293 rfl rfl ?_
      refine E_aln 0 d_Mo_keepsTold_294 rfl rfl ?_
      obtain ⟨v2, ev2, hq⟩ := bd hq
      refine E_gR d_Mo_keepsTold_295 lk_Mo_122 rfl ev2 ?_
      refine E_iln 1 d_Mo_keepsTold_298 rfl rfl ?_
      obtain ⟨v3, ev3, hq⟩ := bd hq
      refine E_ra d_Mo_keepsTold_299 ev3 ?_
      obtain ⟨q5, eq5, hq⟩ := bd hq
      obtain ⟨p4, ep4, hq⟩ := bd hq
      refine E_cV1I d_Mo_keepsTold_300 ck_Mo_501 rfl rfl eq5 (Nat.le_of_ble_eq_true rfl) (Nat.le_of_ble_eq_true rfl) (t_Mo_keeps (by omega) ep4) ?_
      obtain ⟨h6, eh6, hq⟩ := bd hq
      refine E_wa d_Mo_keepsTold_303 eh6 ?_
      refine E_aln 0 d_Mo_keepsTold_304 rfl rfl ?_
      obtain ⟨v7, ev7, hq⟩ := bd hq
      refine E_gR d_Mo_keepsTold_305 lk_Mo_134 rfl ev7 ?_
      refine E_iln 1 d_Mo_keepsTold_308 rfl rfl ?_
      refine E_aln 0 d_Mo_keepsTold_309 rfl rfl ?_
      refine E_aln 0 d_Mo_keepsTold_310 rfl rfl ?_
      obtain ⟨v8, ev8, hq⟩ := bd hq
      refine E_gR d_Mo_keepsTold_311 lk_Mo_134 rfl ev8 ?_
      refine E_iln 1 d_Mo_keepsTold_314 rfl rfl ?_
      obtain ⟨v9, ev9, hq⟩ := bd hq
      refine E_ra d_Mo_keepsTold_315 ev9 ?_
      obtain ⟨q11, eq11, hq⟩ := bd hq
      obtain ⟨p10, ep10, hq⟩ := bd hq
      refine E_cV1I d_Mo_keepsTold_316 ck_Mo_501 rfl rfl eq11 (Nat.le_of_ble_eq_true rfl) (Nat.le_of_ble_eq_true rfl) (t_Mo_keeps (by omega) ep10) ?_
      obtain ⟨h12, eh12, hq⟩ := bd hq
      refine E_wa d_Mo_keepsTold_319 eh12 ?_
      refine E_inc (v := 1) (ls' := [(1, .int (x1 + 1)), (0, .ref a0)]) 1 d_Mo_keepsTold_320 rfl (Nat.le_of_ble_eq_true rfl) (by decide) rfl ?_
      refine E_goto (tgt := 282) d_Mo_keepsTold_323 (by decide) ?_
      exact E_sub (ks := [1, 0]) rfl <| ih _ _ _ _ hq
def f_Mo_keepsTold_252 : Nat → Nat → Int32 → PH → Option (PH)
  | 0, _, _, _ => none
  | n + 1, a0, x1, h =>
    if 10 ≤ x1 then
      f_Mo_keepsTold_282 FU a0 0 h
    else
      (ldR h 9 a0 57).bind fun v1 =>
      (ldR h 9 a0 57).bind fun v2 =>
      (rdA h v2 x1).bind fun v3 =>
      (isO h 9 a0).bind fun _ =>
      (f_Mo_keeps a0 v3 h).bind fun p4 =>
      (wrA p4.2 v1 x1 p4.1).bind fun h6 =>
      f_Mo_keepsTold_252 n a0 (x1 + 1) h6
theorem t_Mo_keepsTold_252 {d : Nat} (hd : 1 ≤ d) : ∀ (n : Nat) (a0 : Nat) (x1 : Int32) (h : PH) (r : PH), f_Mo_keepsTold_252 n a0 x1 h = some r → E d 0 0 m_Mo_keepsTold 252 [(0, .ref a0), (1, .int x1)] [] h (PV r) := by
  intro n
  induction n with
  | zero => intro a0 x1 h r hq; rw [f_Mo_keepsTold_252] at hq; cases hq
  | succ n ih =>
    intro a0 x1 h r hq
    rw [f_Mo_keepsTold_252] at hq
    obtain ⟨d, rfl⟩ : ∃ e, d = e + 1 := ⟨d - 1, by omega⟩
    refine E_iln 1 d_Mo_keepsTold_252 rfl rfl ?_
    refine E_bi (v := 10) d_Mo_keepsTold_253 (by decide) ?_
    refine E_jge (tgt := 280) d_Mo_keepsTold_255 (by decide) (fun c => ?_) (fun c => ?_)
    · rw [if_pos c] at hq
      refine E_ic (v := 0) d_Mo_keepsTold_280 (by decide) ?_
      refine E_isn (ls' := [(1, .int 0), (0, .ref a0)]) d_Mo_keepsTold_281 (Nat.le_of_ble_eq_true rfl) rfl ?_
      exact E_sub (ks := [1, 0]) rfl <| t_Mo_keepsTold_282 (by omega) _ _ _ _ _ hq
    · rw [if_neg c] at hq
      refine E_aln 0 d_Mo_keepsTold_258 rfl rfl ?_
      obtain ⟨v1, ev1, hq⟩ := bd hq
      refine E_gR d_Mo_keepsTold_259 lk_Mo_107 rfl ev1 ?_
      refine E_iln 1 d_Mo_keepsTold_262 rfl rfl ?_
      refine E_aln 0 d_Mo_keepsTold_263 rfl rfl ?_
      refine E_aln 0 d_Mo_keepsTold_264 rfl rfl ?_
      obtain ⟨v2, ev2, hq⟩ := bd hq
      refine E_gR d_Mo_keepsTold_265 lk_Mo_107 rfl ev2 ?_
      refine E_iln 1 d_Mo_keepsTold_268 rfl rfl ?_
      obtain ⟨v3, ev3, hq⟩ := bd hq
      refine E_ra d_Mo_keepsTold_269 ev3 ?_
      obtain ⟨q5, eq5, hq⟩ := bd hq
      obtain ⟨p4, ep4, hq⟩ := bd hq
      refine E_cV1I d_Mo_keepsTold_270 ck_Mo_501 rfl rfl eq5 (Nat.le_of_ble_eq_true rfl) (Nat.le_of_ble_eq_true rfl) (t_Mo_keeps (by omega) ep4) ?_
      obtain ⟨h6, eh6, hq⟩ := bd hq
      refine E_wa d_Mo_keepsTold_273 eh6 ?_
      refine E_inc (v := 1) (ls' := [(1, .int (x1 + 1)), (0, .ref a0)]) 1 d_Mo_keepsTold_274 rfl (Nat.le_of_ble_eq_true rfl) (by decide) rfl ?_
      refine E_goto (tgt := 252) d_Mo_keepsTold_277 (by decide) ?_
      exact E_sub (ks := [1, 0]) rfl <| ih _ _ _ _ hq
def f_Mo_keepsTold_174 : Nat → Nat → Int32 → PH → Option (PH)
  | 0, _, _, _ => none
  | n + 1, a0, x1, h =>
    if 8 ≤ x1 then
      f_Mo_keepsTold_252 FU a0 0 h
    else
      (ldR h 9 a0 45).bind fun v1 =>
      (ldR h 9 a0 45).bind fun v2 =>
      (rdA h v2 x1).bind fun v3 =>
      (isO h 9 a0).bind fun _ =>
      (f_Mo_keeps a0 v3 h).bind fun p4 =>
      (wrA p4.2 v1 x1 p4.1).bind fun h6 =>
      (ldR h6 9 a0 46).bind fun v7 =>
      (ldR h6 9 a0 46).bind fun v8 =>
      (rdA h6 v8 x1).bind fun v9 =>
      (isO h6 9 a0).bind fun _ =>
      (f_Mo_keeps a0 v9 h6).bind fun p10 =>
      (wrA p10.2 v7 x1 p10.1).bind fun h12 =>
      (ldR h12 9 a0 47).bind fun v13 =>
      (ldR h12 9 a0 47).bind fun v14 =>
      (rdA h12 v14 x1).bind fun v15 =>
      (isO h12 9 a0).bind fun _ =>
      (f_Mo_keeps a0 v15 h12).bind fun p16 =>
      (wrA p16.2 v13 x1 p16.1).bind fun h18 =>
      (ldR h18 9 a0 53).bind fun v19 =>
      (ldR h18 9 a0 53).bind fun v20 =>
      (rdA h18 v20 x1).bind fun v21 =>
      (isO h18 9 a0).bind fun _ =>
      (f_Mo_keeps a0 v21 h18).bind fun p22 =>
      (wrA p22.2 v19 x1 p22.1).bind fun h24 =>
      f_Mo_keepsTold_174 n a0 (x1 + 1) h24
theorem t_Mo_keepsTold_174 {d : Nat} (hd : 1 ≤ d) : ∀ (n : Nat) (a0 : Nat) (x1 : Int32) (h : PH) (r : PH), f_Mo_keepsTold_174 n a0 x1 h = some r → E d 0 0 m_Mo_keepsTold 174 [(0, .ref a0), (1, .int x1)] [] h (PV r) := by
  intro n
  induction n with
  | zero => intro a0 x1 h r hq; rw [f_Mo_keepsTold_174] at hq; cases hq
  | succ n ih =>
    intro a0 x1 h r hq
    rw [f_Mo_keepsTold_174] at hq
    obtain ⟨d, rfl⟩ : ∃ e, d = e + 1 := ⟨d - 1, by omega⟩
    refine E_iln 1 d_Mo_keepsTold_174 rfl rfl ?_
    refine E_bi (v := 8) d_Mo_keepsTold_175 (by decide) ?_
    refine E_jge (tgt := 250) d_Mo_keepsTold_177 (by decide) (fun c => ?_) (fun c => ?_)
    · rw [if_pos c] at hq
      refine E_ic (v := 0) d_Mo_keepsTold_250 (by decide) ?_
      refine E_isn (ls' := [(1, .int 0), (0, .ref a0)]) d_Mo_keepsTold_251 (Nat.le_of_ble_eq_true rfl) rfl ?_
      exact E_sub (ks := [1, 0]) rfl <| t_Mo_keepsTold_252 (by omega) _ _ _ _ _ hq
    · rw [if_neg c] at hq
      refine E_aln 0 d_Mo_keepsTold_180 rfl rfl ?_
      obtain ⟨v1, ev1, hq⟩ := bd hq
      refine E_gR d_Mo_keepsTold_181 lk_Mo_83 rfl ev1 ?_
      refine E_iln 1 d_Mo_keepsTold_184 rfl rfl ?_
      refine E_aln 0 d_Mo_keepsTold_185 rfl rfl ?_
      refine E_aln 0 d_Mo_keepsTold_186 rfl rfl ?_
      obtain ⟨v2, ev2, hq⟩ := bd hq
      refine E_gR d_Mo_keepsTold_187 lk_Mo_83 rfl ev2 ?_
      refine E_iln 1 d_Mo_keepsTold_190 rfl rfl ?_
      obtain ⟨v3, ev3, hq⟩ := bd hq
      refine E_ra d_Mo_keepsTold_191 ev3 ?_
      obtain ⟨q5, eq5, hq⟩ := bd hq
      obtain ⟨p4, ep4, hq⟩ := bd hq
      refine E_cV1I d_Mo_keepsTold_192 ck_Mo_501 rfl rfl eq5 (Nat.le_of_ble_eq_true rfl) (Nat.le_of_ble_eq_true rfl) (t_Mo_keeps (by omega) ep4) ?_
      obtain ⟨h6, eh6, hq⟩ := bd hq
      refine E_wa d_Mo_keepsTold_195 eh6 ?_
      refine E_aln 0 d_Mo_keepsTold_196 rfl rfl ?_
      obtain ⟨v7, ev7, hq⟩ := bd hq
      refine E_gR d_Mo_keepsTold_197 lk_Mo_86 rfl ev7 ?_
      refine E_iln 1 d_Mo_keepsTold_200 rfl rfl ?_
      refine E_aln 0 d_Mo_keepsTold_201 rfl rfl ?_
      refine E_aln 0 d_Mo_keepsTold_202 rfl rfl ?_
      obtain ⟨v8, ev8, hq⟩ := bd hq
      refine E_gR d_Mo_keepsTold_203 lk_Mo_86 rfl ev8 ?_
      refine E_iln 1 d_Mo_keepsTold_206 rfl rfl ?_
      obtain ⟨v9, ev9, hq⟩ := bd hq
      refine E_ra d_Mo_keepsTold_207 ev9 ?_
      obtain ⟨q11, eq11, hq⟩ := bd hq
      obtain ⟨p10, ep10, hq⟩ := bd hq
      refine E_cV1I d_Mo_keepsTold_208 ck_Mo_501 rfl rfl eq11 (Nat.le_of_ble_eq_true rfl) (Nat.le_of_ble_eq_true rfl) (t_Mo_keeps (by omega) ep10) ?_
      obtain ⟨h12, eh12, hq⟩ := bd hq
      refine E_wa d_Mo_keepsTold_211 eh12 ?_
      refine E_aln 0 d_Mo_keepsTold_212 rfl rfl ?_
      obtain ⟨v13, ev13, hq⟩ := bd hq
      refine E_gR d_Mo_keepsTold_213 lk_Mo_89 rfl ev13 ?_
      refine E_iln 1 d_Mo_keepsTold_216 rfl rfl ?_
      refine E_aln 0 d_Mo_keepsTold_217 rfl rfl ?_
      refine E_aln 0 d_Mo_keepsTold_218 rfl rfl ?_
      obtain ⟨v14, ev14, hq⟩ := bd hq
      refine E_gR d_Mo_keepsTold_219 lk_Mo_89 rfl ev14 ?_
      refine E_iln 1 d_Mo_keepsTold_222 rfl rfl ?_
      obtain ⟨v15, ev15, hq⟩ := bd hq
      refine E_ra d_Mo_keepsTold_223 ev15 ?_
      obtain ⟨q17, eq17, hq⟩ := bd hq
      obtain ⟨p16, ep16, hq⟩ := bd hq
      refine E_cV1I d_Mo_keepsTold_224 ck_Mo_501 rfl rfl eq17 (Nat.le_of_ble_eq_true rfl) (Nat.le_of_ble_eq_true rfl) (t_Mo_keeps (by omega) ep16) ?_
      obtain ⟨h18, eh18, hq⟩ := bd hq
      refine E_wa d_Mo_keepsTold_227 eh18 ?_
      refine E_aln 0 d_Mo_keepsTold_228 rfl rfl ?_
      obtain ⟨v19, ev19, hq⟩ := bd hq
      refine E_gR d_Mo_keepsTold_229 lk_Mo_101 rfl ev19 ?_
      refine E_iln 1 d_Mo_keepsTold_232 rfl rfl ?_
      refine E_aln 0 d_Mo_keepsTold_233 rfl rfl ?_
      refine E_aln 0 d_Mo_keepsTold_234 rfl rfl ?_
      obtain ⟨v20, ev20, hq⟩ := bd hq
      refine E_gR d_Mo_keepsTold_235 lk_Mo_101 rfl ev20 ?_
      refine E_iln 1 d_Mo_keepsTold_238 rfl rfl ?_
      obtain ⟨v21, ev21, hq⟩ := bd hq
      refine E_ra d_Mo_keepsTold_239 ev21 ?_
      obtain ⟨q23, eq23, hq⟩ := bd hq
      obtain ⟨p22, ep22, hq⟩ := bd hq
      refine E_cV1I d_Mo_keepsTold_240 ck_Mo_501 rfl rfl eq23 (Nat.le_of_ble_eq_true rfl) (Nat.le_of_ble_eq_true rfl) (t_Mo_keeps (by omega) ep22) ?_
      obtain ⟨h24, eh24, hq⟩ := bd hq
      refine E_wa d_Mo_keepsTold_243 eh24 ?_
      refine E_inc (v := 1) (ls' := [(1, .int (x1 + 1)), (0, .ref a0)]) 1 d_Mo_keepsTold_244 rfl (Nat.le_of_ble_eq_true rfl) (by decide) rfl ?_
      refine E_goto (tgt := 174) d_Mo_keepsTold_247 (by decide) ?_
      exact E_sub (ks := [1, 0]) rfl <| ih _ _ _ _ hq
def f_Mo_keepsTold_80 : Nat → Nat → Int32 → PH → Option (PH)
  | 0, _, _, _ => none
  | n + 1, a0, x1, h =>
    if 6 ≤ x1 then
      f_Mo_keepsTold_174 FU a0 0 h
    else
      (ldR h 9 a0 10).bind fun v1 =>
      (ldR h 9 a0 10).bind fun v2 =>
      (rdA h v2 x1).bind fun v3 =>
      (isO h 9 a0).bind fun _ =>
      (f_Mo_keeps a0 v3 h).bind fun p4 =>
      (wrA p4.2 v1 x1 p4.1).bind fun h6 =>
      (ldR h6 9 a0 11).bind fun v7 =>
      (ldR h6 9 a0 11).bind fun v8 =>
      (rdA h6 v8 x1).bind fun v9 =>
      (isO h6 9 a0).bind fun _ =>
      (f_Mo_keeps a0 v9 h6).bind fun p10 =>
      (wrA p10.2 v7 x1 p10.1).bind fun h12 =>
      (ldR h12 9 a0 49).bind fun v13 =>
      (ldR h12 9 a0 49).bind fun v14 =>
      (rdA h12 v14 x1).bind fun v15 =>
      (isO h12 9 a0).bind fun _ =>
      (f_Mo_keeps a0 v15 h12).bind fun p16 =>
      (wrA p16.2 v13 x1 p16.1).bind fun h18 =>
      (ldR h18 9 a0 58).bind fun v19 =>
      (ldR h18 9 a0 58).bind fun v20 =>
      (rdA h18 v20 x1).bind fun v21 =>
      (isO h18 9 a0).bind fun _ =>
      (f_Mo_keeps a0 v21 h18).bind fun p22 =>
      (wrA p22.2 v19 x1 p22.1).bind fun h24 =>
      (ldR h24 9 a0 59).bind fun v25 =>
      (ldR h24 9 a0 59).bind fun v26 =>
      (rdA h24 v26 x1).bind fun v27 =>
      (isO h24 9 a0).bind fun _ =>
      (f_Mo_keeps a0 v27 h24).bind fun p28 =>
      (wrA p28.2 v25 x1 p28.1).bind fun h30 =>
      f_Mo_keepsTold_80 n a0 (x1 + 1) h30
theorem t_Mo_keepsTold_80 {d : Nat} (hd : 1 ≤ d) : ∀ (n : Nat) (a0 : Nat) (x1 : Int32) (h : PH) (r : PH), f_Mo_keepsTold_80 n a0 x1 h = some r → E d 0 0 m_Mo_keepsTold 80 [(0, .ref a0), (1, .int x1)] [] h (PV r) := by
  intro n
  induction n with
  | zero => intro a0 x1 h r hq; rw [f_Mo_keepsTold_80] at hq; cases hq
  | succ n ih =>
    intro a0 x1 h r hq
    rw [f_Mo_keepsTold_80] at hq
    obtain ⟨d, rfl⟩ : ∃ e, d = e + 1 := ⟨d - 1, by omega⟩
    refine E_iln 1 d_Mo_keepsTold_80 rfl rfl ?_
    refine E_bi (v := 6) d_Mo_keepsTold_81 (by decide) ?_
    refine E_jge (tgt := 172) d_Mo_keepsTold_83 (by decide) (fun c => ?_) (fun c => ?_)
    · rw [if_pos c] at hq
      refine E_ic (v := 0) d_Mo_keepsTold_172 (by decide) ?_
      refine E_isn (ls' := [(1, .int 0), (0, .ref a0)]) d_Mo_keepsTold_173 (Nat.le_of_ble_eq_true rfl) rfl ?_
      exact E_sub (ks := [1, 0]) rfl <| t_Mo_keepsTold_174 (by omega) _ _ _ _ _ hq
    · rw [if_neg c] at hq
      refine E_aln 0 d_Mo_keepsTold_86 rfl rfl ?_
      obtain ⟨v1, ev1, hq⟩ := bd hq
      refine E_gR d_Mo_keepsTold_87 lk_Mo_25 rfl ev1 ?_
      refine E_iln 1 d_Mo_keepsTold_90 rfl rfl ?_
      refine E_aln 0 d_Mo_keepsTold_91 rfl rfl ?_
      refine E_aln 0 d_Mo_keepsTold_92 rfl rfl ?_
      obtain ⟨v2, ev2, hq⟩ := bd hq
      refine E_gR d_Mo_keepsTold_93 lk_Mo_25 rfl ev2 ?_
      refine E_iln 1 d_Mo_keepsTold_96 rfl rfl ?_
      obtain ⟨v3, ev3, hq⟩ := bd hq
      refine E_ra d_Mo_keepsTold_97 ev3 ?_
      obtain ⟨q5, eq5, hq⟩ := bd hq
      obtain ⟨p4, ep4, hq⟩ := bd hq
      refine E_cV1I d_Mo_keepsTold_98 ck_Mo_501 rfl rfl eq5 (Nat.le_of_ble_eq_true rfl) (Nat.le_of_ble_eq_true rfl) (t_Mo_keeps (by omega) ep4) ?_
      obtain ⟨h6, eh6, hq⟩ := bd hq
      refine E_wa d_Mo_keepsTold_101 eh6 ?_
      refine E_aln 0 d_Mo_keepsTold_102 rfl rfl ?_
      obtain ⟨v7, ev7, hq⟩ := bd hq
      refine E_gR d_Mo_keepsTold_103 lk_Mo_28 rfl ev7 ?_
      refine E_iln 1 d_Mo_keepsTold_106 rfl rfl ?_
      refine E_aln 0 d_Mo_keepsTold_107 rfl rfl ?_
      refine E_aln 0 d_Mo_keepsTold_108 rfl rfl ?_
      obtain ⟨v8, ev8, hq⟩ := bd hq
      refine E_gR d_Mo_keepsTold_109 lk_Mo_28 rfl ev8 ?_
      refine E_iln 1 d_Mo_keepsTold_112 rfl rfl ?_
      obtain ⟨v9, ev9, hq⟩ := bd hq
      refine E_ra d_Mo_keepsTold_113 ev9 ?_
      obtain ⟨q11, eq11, hq⟩ := bd hq
      obtain ⟨p10, ep10, hq⟩ := bd hq
      refine E_cV1I d_Mo_keepsTold_114 ck_Mo_501 rfl rfl eq11 (Nat.le_of_ble_eq_true rfl) (Nat.le_of_ble_eq_true rfl) (t_Mo_keeps (by omega) ep10) ?_
      obtain ⟨h12, eh12, hq⟩ := bd hq
      refine E_wa d_Mo_keepsTold_117 eh12 ?_
      refine E_aln 0 d_Mo_keepsTold_118 rfl rfl ?_
      obtain ⟨v13, ev13, hq⟩ := bd hq
      refine E_gR d_Mo_keepsTold_119 lk_Mo_92 rfl ev13 ?_
      refine E_iln 1 d_Mo_keepsTold_122 rfl rfl ?_
      refine E_aln 0 d_Mo_keepsTold_123 rfl rfl ?_
      refine E_aln 0 d_Mo_keepsTold_124 rfl rfl ?_
      obtain ⟨v14, ev14, hq⟩ := bd hq
      refine E_gR d_Mo_keepsTold_125 lk_Mo_92 rfl ev14 ?_
      refine E_iln 1 d_Mo_keepsTold_128 rfl rfl ?_
      obtain ⟨v15, ev15, hq⟩ := bd hq
      refine E_ra d_Mo_keepsTold_129 ev15 ?_
      obtain ⟨q17, eq17, hq⟩ := bd hq
      obtain ⟨p16, ep16, hq⟩ := bd hq
      refine E_cV1I d_Mo_keepsTold_130 ck_Mo_501 rfl rfl eq17 (Nat.le_of_ble_eq_true rfl) (Nat.le_of_ble_eq_true rfl) (t_Mo_keeps (by omega) ep16) ?_
      obtain ⟨h18, eh18, hq⟩ := bd hq
      refine E_wa d_Mo_keepsTold_133 eh18 ?_
      refine E_aln 0 d_Mo_keepsTold_134 rfl rfl ?_
      obtain ⟨v19, ev19, hq⟩ := bd hq
      refine E_gR d_Mo_keepsTold_135 lk_Mo_110 rfl ev19 ?_
      refine E_iln 1 d_Mo_keepsTold_138 rfl rfl ?_
      refine E_aln 0 d_Mo_keepsTold_139 rfl rfl ?_
      refine E_aln 0 d_Mo_keepsTold_140 rfl rfl ?_
      obtain ⟨v20, ev20, hq⟩ := bd hq
      refine E_gR d_Mo_keepsTold_141 lk_Mo_110 rfl ev20 ?_
      refine E_iln 1 d_Mo_keepsTold_144 rfl rfl ?_
      obtain ⟨v21, ev21, hq⟩ := bd hq
      refine E_ra d_Mo_keepsTold_145 ev21 ?_
      obtain ⟨q23, eq23, hq⟩ := bd hq
      obtain ⟨p22, ep22, hq⟩ := bd hq
      refine E_cV1I d_Mo_keepsTold_146 ck_Mo_501 rfl rfl eq23 (Nat.le_of_ble_eq_true rfl) (Nat.le_of_ble_eq_true rfl) (t_Mo_keeps (by omega) ep22) ?_
      obtain ⟨h24, eh24, hq⟩ := bd hq
      refine E_wa d_Mo_keepsTold_149 eh24 ?_
      refine E_aln 0 d_Mo_keepsTold_150 rfl rfl ?_
      obtain ⟨v25, ev25, hq⟩ := bd hq
      refine E_gR d_Mo_keepsTold_151 lk_Mo_113 rfl ev25 ?_
      refine E_iln 1 d_Mo_keepsTold_154 rfl rfl ?_
      refine E_aln 0 d_Mo_keepsTold_155 rfl rfl ?_
      refine E_aln 0 d_Mo_keepsTold_156 rfl rfl ?_
      obtain ⟨v26, ev26, hq⟩ := bd hq
      refine E_gR d_Mo_keepsTold_157 lk_Mo_113 rfl ev26 ?_
      refine E_iln 1 d_Mo_keepsTold_160 rfl rfl ?_
      obtain ⟨v27, ev27, hq⟩ := bd hq
      refine E_ra d_Mo_keepsTold_161 ev27 ?_
      obtain ⟨q29, eq29, hq⟩ := bd hq
      obtain ⟨p28, ep28, hq⟩ := bd hq
      refine E_cV1I d_Mo_keepsTold_162 ck_Mo_501 rfl rfl eq29 (Nat.le_of_ble_eq_true rfl) (Nat.le_of_ble_eq_true rfl) (t_Mo_keeps (by omega) ep28) ?_
      obtain ⟨h30, eh30, hq⟩ := bd hq
      refine E_wa d_Mo_keepsTold_165 eh30 ?_
      refine E_inc (v := 1) (ls' := [(1, .int (x1 + 1)), (0, .ref a0)]) 1 d_Mo_keepsTold_166 rfl (Nat.le_of_ble_eq_true rfl) (by decide) rfl ?_
      refine E_goto (tgt := 80) d_Mo_keepsTold_169 (by decide) ?_
      exact E_sub (ks := [1, 0]) rfl <| ih _ _ _ _ hq
def f_Mo_keepsTold_2 : Nat → Nat → Int32 → PH → Option (PH)
  | 0, _, _, _ => none
  | n + 1, a0, x1, h =>
    if 12 ≤ x1 then
      f_Mo_keepsTold_80 FU a0 0 h
    else
      (ldR h 9 a0 8).bind fun v1 =>
      (ldR h 9 a0 8).bind fun v2 =>
      (rdA h v2 x1).bind fun v3 =>
      (isO h 9 a0).bind fun _ =>
      (f_Mo_keeps a0 v3 h).bind fun p4 =>
      (wrA p4.2 v1 x1 p4.1).bind fun h6 =>
      (ldR h6 9 a0 9).bind fun v7 =>
      (ldR h6 9 a0 9).bind fun v8 =>
      (rdA h6 v8 x1).bind fun v9 =>
      (isO h6 9 a0).bind fun _ =>
      (f_Mo_keeps a0 v9 h6).bind fun p10 =>
      (wrA p10.2 v7 x1 p10.1).bind fun h12 =>
      (ldR h12 9 a0 37).bind fun v13 =>
      (ldR h12 9 a0 37).bind fun v14 =>
      (rdA h12 v14 x1).bind fun v15 =>
      (isO h12 9 a0).bind fun _ =>
      (f_Mo_keeps a0 v15 h12).bind fun p16 =>
      (wrA p16.2 v13 x1 p16.1).bind fun h18 =>
      (ldR h18 9 a0 64).bind fun v19 =>
      (ldR h18 9 a0 64).bind fun v20 =>
      (rdA h18 v20 x1).bind fun v21 =>
      (isO h18 9 a0).bind fun _ =>
      (f_Mo_keeps a0 v21 h18).bind fun p22 =>
      (wrA p22.2 v19 x1 p22.1).bind fun h24 =>
      f_Mo_keepsTold_2 n a0 (x1 + 1) h24
theorem t_Mo_keepsTold_2 {d : Nat} (hd : 1 ≤ d) : ∀ (n : Nat) (a0 : Nat) (x1 : Int32) (h : PH) (r : PH), f_Mo_keepsTold_2 n a0 x1 h = some r → E d 0 0 m_Mo_keepsTold 2 [(0, .ref a0), (1, .int x1)] [] h (PV r) := by
  intro n
  induction n with
  | zero => intro a0 x1 h r hq; rw [f_Mo_keepsTold_2] at hq; cases hq
  | succ n ih =>
    intro a0 x1 h r hq
    rw [f_Mo_keepsTold_2] at hq
    obtain ⟨d, rfl⟩ : ∃ e, d = e + 1 := ⟨d - 1, by omega⟩
    refine E_iln 1 d_Mo_keepsTold_2 rfl rfl ?_
    refine E_bi (v := 12) d_Mo_keepsTold_3 (by decide) ?_
    refine E_jge (tgt := 78) d_Mo_keepsTold_5 (by decide) (fun c => ?_) (fun c => ?_)
    · rw [if_pos c] at hq
      refine E_ic (v := 0) d_Mo_keepsTold_78 (by decide) ?_
      refine E_isn (ls' := [(1, .int 0), (0, .ref a0)]) d_Mo_keepsTold_79 (Nat.le_of_ble_eq_true rfl) rfl ?_
      exact E_sub (ks := [1, 0]) rfl <| t_Mo_keepsTold_80 (by omega) _ _ _ _ _ hq
    · rw [if_neg c] at hq
      refine E_aln 0 d_Mo_keepsTold_8 rfl rfl ?_
      obtain ⟨v1, ev1, hq⟩ := bd hq
      refine E_gR d_Mo_keepsTold_9 lk_Mo_19 rfl ev1 ?_
      refine E_iln 1 d_Mo_keepsTold_12 rfl rfl ?_
      refine E_aln 0 d_Mo_keepsTold_13 rfl rfl ?_
      refine E_aln 0 d_Mo_keepsTold_14 rfl rfl ?_
      obtain ⟨v2, ev2, hq⟩ := bd hq
      refine E_gR d_Mo_keepsTold_15 lk_Mo_19 rfl ev2 ?_
      refine E_iln 1 d_Mo_keepsTold_18 rfl rfl ?_
      obtain ⟨v3, ev3, hq⟩ := bd hq
      refine E_ra d_Mo_keepsTold_19 ev3 ?_
      obtain ⟨q5, eq5, hq⟩ := bd hq
      obtain ⟨p4, ep4, hq⟩ := bd hq
      refine E_cV1I d_Mo_keepsTold_20 ck_Mo_501 rfl rfl eq5 (Nat.le_of_ble_eq_true rfl) (Nat.le_of_ble_eq_true rfl) (t_Mo_keeps (by omega) ep4) ?_
      obtain ⟨h6, eh6, hq⟩ := bd hq
      refine E_wa d_Mo_keepsTold_23 eh6 ?_
      refine E_aln 0 d_Mo_keepsTold_24 rfl rfl ?_
      obtain ⟨v7, ev7, hq⟩ := bd hq
      refine E_gR d_Mo_keepsTold_25 lk_Mo_22 rfl ev7 ?_
      refine E_iln 1 d_Mo_keepsTold_28 rfl rfl ?_
      refine E_aln 0 d_Mo_keepsTold_29 rfl rfl ?_
      refine E_aln 0 d_Mo_keepsTold_30 rfl rfl ?_
      obtain ⟨v8, ev8, hq⟩ := bd hq
      refine E_gR d_Mo_keepsTold_31 lk_Mo_22 rfl ev8 ?_
      refine E_iln 1 d_Mo_keepsTold_34 rfl rfl ?_
      obtain ⟨v9, ev9, hq⟩ := bd hq
      refine E_ra d_Mo_keepsTold_35 ev9 ?_
      obtain ⟨q11, eq11, hq⟩ := bd hq
      obtain ⟨p10, ep10, hq⟩ := bd hq
      refine E_cV1I d_Mo_keepsTold_36 ck_Mo_501 rfl rfl eq11 (Nat.le_of_ble_eq_true rfl) (Nat.le_of_ble_eq_true rfl) (t_Mo_keeps (by omega) ep10) ?_
      obtain ⟨h12, eh12, hq⟩ := bd hq
      refine E_wa d_Mo_keepsTold_39 eh12 ?_
      refine E_aln 0 d_Mo_keepsTold_40 rfl rfl ?_
      obtain ⟨v13, ev13, hq⟩ := bd hq
      refine E_gR d_Mo_keepsTold_41 lk_Mo_68 rfl ev13 ?_
      refine E_iln 1 d_Mo_keepsTold_44 rfl rfl ?_
      refine E_aln 0 d_Mo_keepsTold_45 rfl rfl ?_
      refine E_aln 0 d_Mo_keepsTold_46 rfl rfl ?_
      obtain ⟨v14, ev14, hq⟩ := bd hq
      refine E_gR d_Mo_keepsTold_47 lk_Mo_68 rfl ev14 ?_
      refine E_iln 1 d_Mo_keepsTold_50 rfl rfl ?_
      obtain ⟨v15, ev15, hq⟩ := bd hq
      refine E_ra d_Mo_keepsTold_51 ev15 ?_
      obtain ⟨q17, eq17, hq⟩ := bd hq
      obtain ⟨p16, ep16, hq⟩ := bd hq
      refine E_cV1I d_Mo_keepsTold_52 ck_Mo_501 rfl rfl eq17 (Nat.le_of_ble_eq_true rfl) (Nat.le_of_ble_eq_true rfl) (t_Mo_keeps (by omega) ep16) ?_
      obtain ⟨h18, eh18, hq⟩ := bd hq
      refine E_wa d_Mo_keepsTold_55 eh18 ?_
      refine E_aln 0 d_Mo_keepsTold_56 rfl rfl ?_
      obtain ⟨v19, ev19, hq⟩ := bd hq
      refine E_gR d_Mo_keepsTold_57 lk_Mo_125 rfl ev19 ?_
      refine E_iln 1 d_Mo_keepsTold_60 rfl rfl ?_
      refine E_aln 0 d_Mo_keepsTold_61 rfl rfl ?_
      refine E_aln 0 d_Mo_keepsTold_62 rfl rfl ?_
      obtain ⟨v20, ev20, hq⟩ := bd hq
      refine E_gR d_Mo_keepsTold_63 lk_Mo_125 rfl ev20 ?_
      refine E_iln 1 d_Mo_keepsTold_66 rfl rfl ?_
      obtain ⟨v21, ev21, hq⟩ := bd hq
      refine E_ra d_Mo_keepsTold_67 ev21 ?_
      obtain ⟨q23, eq23, hq⟩ := bd hq
      obtain ⟨p22, ep22, hq⟩ := bd hq
      refine E_cV1I d_Mo_keepsTold_68 ck_Mo_501 rfl rfl eq23 (Nat.le_of_ble_eq_true rfl) (Nat.le_of_ble_eq_true rfl) (t_Mo_keeps (by omega) ep22) ?_
      obtain ⟨h24, eh24, hq⟩ := bd hq
      refine E_wa d_Mo_keepsTold_71 eh24 ?_
      refine E_inc (v := 1) (ls' := [(1, .int (x1 + 1)), (0, .ref a0)]) 1 d_Mo_keepsTold_72 rfl (Nat.le_of_ble_eq_true rfl) (by decide) rfl ?_
      refine E_goto (tgt := 2) d_Mo_keepsTold_75 (by decide) ?_
      exact E_sub (ks := [1, 0]) rfl <| ih _ _ _ _ hq
def f_Mo_keepsTold (a0 : Nat) (h : PH) : Option (PH) :=
  f_Mo_keepsTold_2 FU a0 0 h
theorem t_Mo_keepsTold {d : Nat} (hd : 1 ≤ d) {a0 : Nat} {h : PH} {r : PH} (hq : f_Mo_keepsTold a0 h = some r) : E d 0 0 m_Mo_keepsTold 0 [(0, .ref a0)] [] h (PV r) := by
  unfold f_Mo_keepsTold at hq
  obtain ⟨d, rfl⟩ : ∃ e, d = e + 1 := ⟨d - 1, by omega⟩
  refine E_ic (v := 0) d_Mo_keepsTold_0 (by decide) ?_
  refine E_isn (ls' := [(1, .int 0), (0, .ref a0)]) d_Mo_keepsTold_1 (Nat.le_of_ble_eq_true rfl) rfl ?_
  exact E_sub (ks := [1, 0]) rfl <| t_Mo_keepsTold_2 (by omega) _ _ _ _ _ hq
def f_Mo_keepsLaw_96 : Nat → Nat → Int32 → PH → Option (PH)
  | 0, _, _, _ => none
  | n + 1, a0, x1, h =>
    if 400 ≤ x1 then
      some h
    else
      (ldR h 9 a0 25).bind fun v1 =>
      (ldR h 9 a0 25).bind fun v2 =>
      (rdA h v2 x1).bind fun v3 =>
      (isO h 9 a0).bind fun _ =>
      (f_Mo_keeps a0 v3 h).bind fun p4 =>
      (wrA p4.2 v1 x1 p4.1).bind fun h6 =>
      (ldR h6 9 a0 26).bind fun v7 =>
      (ldR h6 9 a0 26).bind fun v8 =>
      (rdA h6 v8 x1).bind fun v9 =>
      (isO h6 9 a0).bind fun _ =>
      (f_Mo_keeps a0 v9 h6).bind fun p10 =>
      (wrA p10.2 v7 x1 p10.1).bind fun h12 =>
      f_Mo_keepsLaw_96 n a0 (x1 + 1) h12
theorem t_Mo_keepsLaw_96 {d : Nat} (hd : 1 ≤ d) : ∀ (n : Nat) (a0 : Nat) (x1 : Int32) (h : PH) (r : PH), f_Mo_keepsLaw_96 n a0 x1 h = some r → E d 0 0 m_Mo_keepsLaw 96 [(0, .ref a0), (1, .int x1)] [] h (PV r) := by
  intro n
  induction n with
  | zero => intro a0 x1 h r hq; rw [f_Mo_keepsLaw_96] at hq; cases hq
  | succ n ih =>
    intro a0 x1 h r hq
    rw [f_Mo_keepsLaw_96] at hq
    obtain ⟨d, rfl⟩ : ∃ e, d = e + 1 := ⟨d - 1, by omega⟩
    refine E_iln 1 d_Mo_keepsLaw_96 rfl rfl ?_
    refine E_si (v := 400) d_Mo_keepsLaw_97 (by decide) ?_
    refine E_jge (tgt := 141) d_Mo_keepsLaw_100 (by decide) (fun c => ?_) (fun c => ?_)
    · rw [if_pos c] at hq
      exact E_rV d_Mo_keepsLaw_141 rfl hq
    · rw [if_neg c] at hq
      refine E_aln 0 d_Mo_keepsLaw_103 rfl rfl ?_
      obtain ⟨v1, ev1, hq⟩ := bd hq
      refine E_gR d_Mo_keepsLaw_104 lk_Mo_55 rfl ev1 ?_
      refine E_iln 1 d_Mo_keepsLaw_107 rfl rfl ?_
      refine E_aln 0 d_Mo_keepsLaw_108 rfl rfl ?_
      refine E_aln 0 d_Mo_keepsLaw_109 rfl rfl ?_
      obtain ⟨v2, ev2, hq⟩ := bd hq
      refine E_gR d_Mo_keepsLaw_110 lk_Mo_55 rfl ev2 ?_
      refine E_iln 1 d_Mo_keepsLaw_113 rfl rfl ?_
      obtain ⟨v3, ev3, hq⟩ := bd hq
      refine E_ra d_Mo_keepsLaw_114 ev3 ?_
      obtain ⟨q5, eq5, hq⟩ := bd hq
      obtain ⟨p4, ep4, hq⟩ := bd hq
      refine E_cV1I d_Mo_keepsLaw_115 ck_Mo_501 rfl rfl eq5 (Nat.le_of_ble_eq_true rfl) (Nat.le_of_ble_eq_true rfl) (t_Mo_keeps (by omega) ep4) ?_
      obtain ⟨h6, eh6, hq⟩ := bd hq
      refine E_wa d_Mo_keepsLaw_118 eh6 ?_
      refine E_aln 0 d_Mo_keepsLaw_119 rfl rfl ?_
      obtain ⟨v7, ev7, hq⟩ := bd hq
      refine E_gR d_Mo_keepsLaw_120 lk_Mo_58 rfl ev7 ?_
      refine E_iln 1 d_Mo_keepsLaw_123 rfl rfl ?_
      refine E_aln 0 d_Mo_keepsLaw_124 rfl rfl ?_
      refine E_aln 0 d_Mo_keepsLaw_125 rfl rfl ?_
      obtain ⟨v8, ev8, hq⟩ := bd hq
      refine E_gR d_Mo_keepsLaw_126 lk_Mo_58 rfl ev8 ?_
      refine E_iln 1 d_Mo_keepsLaw_129 rfl rfl ?_
      obtain ⟨v9, ev9, hq⟩ := bd hq
      refine E_ra d_Mo_keepsLaw_130 ev9 ?_
      obtain ⟨q11, eq11, hq⟩ := bd hq
      obtain ⟨p10, ep10, hq⟩ := bd hq
      refine E_cV1I d_Mo_keepsLaw_131 ck_Mo_501 rfl rfl eq11 (Nat.le_of_ble_eq_true rfl) (Nat.le_of_ble_eq_true rfl) (t_Mo_keeps (by omega) ep10) ?_
      obtain ⟨h12, eh12, hq⟩ := bd hq
      refine E_wa d_Mo_keepsLaw_134 eh12 ?_
      refine E_inc (v := 1) (ls' := [(1, .int (x1 + 1)), (0, .ref a0)]) 1 d_Mo_keepsLaw_135 rfl (Nat.le_of_ble_eq_true rfl) (by decide) rfl ?_
      refine E_goto (tgt := 96) d_Mo_keepsLaw_138 (by decide) ?_
      exact E_sub (ks := [1, 0]) rfl <| ih _ _ _ _ hq
def f_Mo_keepsLaw_18 : Nat → Nat → Int32 → PH → Option (PH)
  | 0, _, _, _ => none
  | n + 1, a0, x1, h =>
    if 16 ≤ x1 then
      f_Mo_keepsLaw_96 FU a0 0 h
    else
      (ldR h 9 a0 21).bind fun v1 =>
      (ldR h 9 a0 21).bind fun v2 =>
      (rdA h v2 x1).bind fun v3 =>
      (isO h 9 a0).bind fun _ =>
      (f_Mo_keeps a0 v3 h).bind fun p4 =>
      (wrA p4.2 v1 x1 p4.1).bind fun h6 =>
      (ldR h6 9 a0 22).bind fun v7 =>
      (ldR h6 9 a0 22).bind fun v8 =>
      (rdA h6 v8 x1).bind fun v9 =>
      (isO h6 9 a0).bind fun _ =>
      (f_Mo_keeps a0 v9 h6).bind fun p10 =>
      (wrA p10.2 v7 x1 p10.1).bind fun h12 =>
      (ldR h12 9 a0 23).bind fun v13 =>
      (ldR h12 9 a0 23).bind fun v14 =>
      (rdA h12 v14 x1).bind fun v15 =>
      (isO h12 9 a0).bind fun _ =>
      (f_Mo_keeps a0 v15 h12).bind fun p16 =>
      (wrA p16.2 v13 x1 p16.1).bind fun h18 =>
      (ldR h18 9 a0 24).bind fun v19 =>
      (ldR h18 9 a0 24).bind fun v20 =>
      (rdA h18 v20 x1).bind fun v21 =>
      (isO h18 9 a0).bind fun _ =>
      (f_Mo_keeps a0 v21 h18).bind fun p22 =>
      (wrA p22.2 v19 x1 p22.1).bind fun h24 =>
      f_Mo_keepsLaw_18 n a0 (x1 + 1) h24
theorem t_Mo_keepsLaw_18 {d : Nat} (hd : 1 ≤ d) : ∀ (n : Nat) (a0 : Nat) (x1 : Int32) (h : PH) (r : PH), f_Mo_keepsLaw_18 n a0 x1 h = some r → E d 0 0 m_Mo_keepsLaw 18 [(0, .ref a0), (1, .int x1)] [] h (PV r) := by
  intro n
  induction n with
  | zero => intro a0 x1 h r hq; rw [f_Mo_keepsLaw_18] at hq; cases hq
  | succ n ih =>
    intro a0 x1 h r hq
    rw [f_Mo_keepsLaw_18] at hq
    obtain ⟨d, rfl⟩ : ∃ e, d = e + 1 := ⟨d - 1, by omega⟩
    refine E_iln 1 d_Mo_keepsLaw_18 rfl rfl ?_
    refine E_bi (v := 16) d_Mo_keepsLaw_19 (by decide) ?_
    refine E_jge (tgt := 94) d_Mo_keepsLaw_21 (by decide) (fun c => ?_) (fun c => ?_)
    · rw [if_pos c] at hq
      refine E_ic (v := 0) d_Mo_keepsLaw_94 (by decide) ?_
      refine E_isn (ls' := [(1, .int 0), (0, .ref a0)]) d_Mo_keepsLaw_95 (Nat.le_of_ble_eq_true rfl) rfl ?_
      exact E_sub (ks := [1, 0]) rfl <| t_Mo_keepsLaw_96 (by omega) _ _ _ _ _ hq
    · rw [if_neg c] at hq
      refine E_aln 0 d_Mo_keepsLaw_24 rfl rfl ?_
      obtain ⟨v1, ev1, hq⟩ := bd hq
      refine E_gR d_Mo_keepsLaw_25 lk_Mo_43 rfl ev1 ?_
      refine E_iln 1 d_Mo_keepsLaw_28 rfl rfl ?_
      refine E_aln 0 d_Mo_keepsLaw_29 rfl rfl ?_
      refine E_aln 0 d_Mo_keepsLaw_30 rfl rfl ?_
      obtain ⟨v2, ev2, hq⟩ := bd hq
      refine E_gR d_Mo_keepsLaw_31 lk_Mo_43 rfl ev2 ?_
      refine E_iln 1 d_Mo_keepsLaw_34 rfl rfl ?_
      obtain ⟨v3, ev3, hq⟩ := bd hq
      refine E_ra d_Mo_keepsLaw_35 ev3 ?_
      obtain ⟨q5, eq5, hq⟩ := bd hq
      obtain ⟨p4, ep4, hq⟩ := bd hq
      refine E_cV1I d_Mo_keepsLaw_36 ck_Mo_501 rfl rfl eq5 (Nat.le_of_ble_eq_true rfl) (Nat.le_of_ble_eq_true rfl) (t_Mo_keeps (by omega) ep4) ?_
      obtain ⟨h6, eh6, hq⟩ := bd hq
      refine E_wa d_Mo_keepsLaw_39 eh6 ?_
      refine E_aln 0 d_Mo_keepsLaw_40 rfl rfl ?_
      obtain ⟨v7, ev7, hq⟩ := bd hq
      refine E_gR d_Mo_keepsLaw_41 lk_Mo_46 rfl ev7 ?_
      refine E_iln 1 d_Mo_keepsLaw_44 rfl rfl ?_
      refine E_aln 0 d_Mo_keepsLaw_45 rfl rfl ?_
      refine E_aln 0 d_Mo_keepsLaw_46 rfl rfl ?_
      obtain ⟨v8, ev8, hq⟩ := bd hq
      refine E_gR d_Mo_keepsLaw_47 lk_Mo_46 rfl ev8 ?_
      refine E_iln 1 d_Mo_keepsLaw_50 rfl rfl ?_
      obtain ⟨v9, ev9, hq⟩ := bd hq
      refine E_ra d_Mo_keepsLaw_51 ev9 ?_
      obtain ⟨q11, eq11, hq⟩ := bd hq
      obtain ⟨p10, ep10, hq⟩ := bd hq
      refine E_cV1I d_Mo_keepsLaw_52 ck_Mo_501 rfl rfl eq11 (Nat.le_of_ble_eq_true rfl) (Nat.le_of_ble_eq_true rfl) (t_Mo_keeps (by omega) ep10) ?_
      obtain ⟨h12, eh12, hq⟩ := bd hq
      refine E_wa d_Mo_keepsLaw_55 eh12 ?_
      refine E_aln 0 d_Mo_keepsLaw_56 rfl rfl ?_
      obtain ⟨v13, ev13, hq⟩ := bd hq
      refine E_gR d_Mo_keepsLaw_57 lk_Mo_49 rfl ev13 ?_
      refine E_iln 1 d_Mo_keepsLaw_60 rfl rfl ?_
      refine E_aln 0 d_Mo_keepsLaw_61 rfl rfl ?_
      refine E_aln 0 d_Mo_keepsLaw_62 rfl rfl ?_
      obtain ⟨v14, ev14, hq⟩ := bd hq
      refine E_gR d_Mo_keepsLaw_63 lk_Mo_49 rfl ev14 ?_
      refine E_iln 1 d_Mo_keepsLaw_66 rfl rfl ?_
      obtain ⟨v15, ev15, hq⟩ := bd hq
      refine E_ra d_Mo_keepsLaw_67 ev15 ?_
      obtain ⟨q17, eq17, hq⟩ := bd hq
      obtain ⟨p16, ep16, hq⟩ := bd hq
      refine E_cV1I d_Mo_keepsLaw_68 ck_Mo_501 rfl rfl eq17 (Nat.le_of_ble_eq_true rfl) (Nat.le_of_ble_eq_true rfl) (t_Mo_keeps (by omega) ep16) ?_
      obtain ⟨h18, eh18, hq⟩ := bd hq
      refine E_wa d_Mo_keepsLaw_71 eh18 ?_
      refine E_aln 0 d_Mo_keepsLaw_72 rfl rfl ?_
      obtain ⟨v19, ev19, hq⟩ := bd hq
      refine E_gR d_Mo_keepsLaw_73 lk_Mo_52 rfl ev19 ?_
      refine E_iln 1 d_Mo_keepsLaw_76 rfl rfl ?_
      refine E_aln 0 d_Mo_keepsLaw_77 rfl rfl ?_
      refine E_aln 0 d_Mo_keepsLaw_78 rfl rfl ?_
      obtain ⟨v20, ev20, hq⟩ := bd hq
      refine E_gR d_Mo_keepsLaw_79 lk_Mo_52 rfl ev20 ?_
      refine E_iln 1 d_Mo_keepsLaw_82 rfl rfl ?_
      obtain ⟨v21, ev21, hq⟩ := bd hq
      refine E_ra d_Mo_keepsLaw_83 ev21 ?_
      obtain ⟨q23, eq23, hq⟩ := bd hq
      obtain ⟨p22, ep22, hq⟩ := bd hq
      refine E_cV1I d_Mo_keepsLaw_84 ck_Mo_501 rfl rfl eq23 (Nat.le_of_ble_eq_true rfl) (Nat.le_of_ble_eq_true rfl) (t_Mo_keeps (by omega) ep22) ?_
      obtain ⟨h24, eh24, hq⟩ := bd hq
      refine E_wa d_Mo_keepsLaw_87 eh24 ?_
      refine E_inc (v := 1) (ls' := [(1, .int (x1 + 1)), (0, .ref a0)]) 1 d_Mo_keepsLaw_88 rfl (Nat.le_of_ble_eq_true rfl) (by decide) rfl ?_
      refine E_goto (tgt := 18) d_Mo_keepsLaw_91 (by decide) ?_
      exact E_sub (ks := [1, 0]) rfl <| ih _ _ _ _ hq
def f_Mo_keepsLaw (a0 : Nat) (h : PH) : Option (PH) :=
  (ldR h 9 a0 20).bind fun v1 =>
  (ldR h 9 a0 20).bind fun v2 =>
  (rdA h v2 0).bind fun v3 =>
  (isO h 9 a0).bind fun _ =>
  (f_Mo_keeps a0 v3 h).bind fun p4 =>
  (wrA p4.2 v1 0 p4.1).bind fun h6 =>
  f_Mo_keepsLaw_18 FU a0 0 h6
theorem t_Mo_keepsLaw {d : Nat} (hd : 1 ≤ d) {a0 : Nat} {h : PH} {r : PH} (hq : f_Mo_keepsLaw a0 h = some r) : E d 0 0 m_Mo_keepsLaw 0 [(0, .ref a0)] [] h (PV r) := by
  unfold f_Mo_keepsLaw at hq
  obtain ⟨d, rfl⟩ : ∃ e, d = e + 1 := ⟨d - 1, by omega⟩
  refine E_aln 0 d_Mo_keepsLaw_0 rfl rfl ?_
  obtain ⟨v1, ev1, hq⟩ := bd hq
  refine E_gR d_Mo_keepsLaw_1 lk_Mo_40 rfl ev1 ?_
  refine E_ic (v := 0) d_Mo_keepsLaw_4 (by decide) ?_
  refine E_aln 0 d_Mo_keepsLaw_5 rfl rfl ?_
  refine E_aln 0 d_Mo_keepsLaw_6 rfl rfl ?_
  obtain ⟨v2, ev2, hq⟩ := bd hq
  refine E_gR d_Mo_keepsLaw_7 lk_Mo_40 rfl ev2 ?_
  refine E_ic (v := 0) d_Mo_keepsLaw_10 (by decide) ?_
  obtain ⟨v3, ev3, hq⟩ := bd hq
  refine E_ra d_Mo_keepsLaw_11 ev3 ?_
  obtain ⟨q5, eq5, hq⟩ := bd hq
  obtain ⟨p4, ep4, hq⟩ := bd hq
  refine E_cV1I d_Mo_keepsLaw_12 ck_Mo_501 rfl rfl eq5 (Nat.le_of_ble_eq_true rfl) (Nat.le_of_ble_eq_true rfl) (t_Mo_keeps (by omega) ep4) ?_
  obtain ⟨h6, eh6, hq⟩ := bd hq
  refine E_wa d_Mo_keepsLaw_15 eh6 ?_
  refine E_ic (v := 0) d_Mo_keepsLaw_16 (by decide) ?_
  refine E_isn (ls' := [(1, .int 0), (0, .ref a0)]) d_Mo_keepsLaw_17 (Nat.le_of_ble_eq_true rfl) rfl ?_
  exact E_sub (ks := [1, 0]) rfl <| t_Mo_keepsLaw_18 (by omega) _ _ _ _ _ hq
def f_Mo_image_73 : Nat → Nat → Int32 → Int32 → PH → Option (Int32 × PH)
  | 0, _, _, _, _ => none
  | n + 1, a0, x1, x2, h =>
    if 600 ≤ x2 then
      (isO h 9 a0).bind fun _ =>
      (f_Mo_keepsLaw a0  h).bind fun h1 =>
      if x1 = 0 then
        (stI h1 9 a0 3 0).bind fun h3 =>
        rtZ 1 h3
      else
        rtZ 1 h1
    else
      (ldR h 9 a0 12).bind fun v4 =>
      (ldR h 9 a0 12).bind fun v5 =>
      (rdA h v5 x2).bind fun v6 =>
      (isO h 9 a0).bind fun _ =>
      (f_Mo_keeps a0 v6 h).bind fun p7 =>
      (wrA p7.2 v4 x2 p7.1).bind fun h9 =>
      f_Mo_image_73 n a0 x1 (x2 + 1) h9
theorem t_Mo_image_73 {d : Nat} (hd : 2 ≤ d) : ∀ (n : Nat) (a0 : Nat) (x1 : Int32) (x2 : Int32) (h : PH) (r : Int32 × PH), f_Mo_image_73 n a0 x1 x2 h = some r → E d 0 0 m_Mo_image 73 [(0, .ref a0), (1, .int x1), (2, .int x2)] [] h (PI r) := by
  intro n
  induction n with
  | zero => intro a0 x1 x2 h r hq; rw [f_Mo_image_73] at hq; cases hq
  | succ n ih =>
    intro a0 x1 x2 h r hq
    rw [f_Mo_image_73] at hq
    obtain ⟨d, rfl⟩ : ∃ e, d = e + 1 := ⟨d - 1, by omega⟩
    refine E_iln 2 d_Mo_image_73 rfl rfl ?_
    refine E_si (v := 600) d_Mo_image_74 (by decide) ?_
    refine E_jge (tgt := 102) d_Mo_image_77 (by decide) (fun c => ?_) (fun c => ?_)
    · rw [if_pos c] at hq
      refine E_aln 0 d_Mo_image_102 rfl rfl ?_
      obtain ⟨q2, eq2, hq⟩ := bd hq
      obtain ⟨h1, eh1, hq⟩ := bd hq
      refine E_cV0V d_Mo_image_103 ck_Mo_513 rfl rfl eq2 (Nat.le_of_ble_eq_true rfl) (Nat.le_of_ble_eq_true rfl) (t_Mo_keepsLaw (by omega) eh1) ?_
      refine E_iln 1 d_Mo_image_106 rfl rfl ?_
      refine E_zne (tgt := 115) d_Mo_image_107 (by decide) (fun c => ?_) (fun c => ?_)
      · rw [if_neg c] at hq
        refine E_ic (v := 1) d_Mo_image_115 (by decide) ?_
        exact E_rZ d_Mo_image_116 rfl hq
      · rw [if_pos c] at hq
        refine E_aln 0 d_Mo_image_110 rfl rfl ?_
        refine E_ic (v := 0) d_Mo_image_111 (by decide) ?_
        obtain ⟨h3, eh3, hq⟩ := bd hq
        refine E_pI d_Mo_image_112 lp_Mo_m_143 rfl eh3 ?_
        refine E_ic (v := 1) d_Mo_image_115 (by decide) ?_
        exact E_rZ d_Mo_image_116 rfl hq
    · rw [if_neg c] at hq
      refine E_aln 0 d_Mo_image_80 rfl rfl ?_
      obtain ⟨v4, ev4, hq⟩ := bd hq
      refine E_gR d_Mo_image_81 lk_Mo_31 rfl ev4 ?_
      refine E_iln 2 d_Mo_image_84 rfl rfl ?_
      refine E_aln 0 d_Mo_image_85 rfl rfl ?_
      refine E_aln 0 d_Mo_image_86 rfl rfl ?_
      obtain ⟨v5, ev5, hq⟩ := bd hq
      refine E_gR d_Mo_image_87 lk_Mo_31 rfl ev5 ?_
      refine E_iln 2 d_Mo_image_90 rfl rfl ?_
      obtain ⟨v6, ev6, hq⟩ := bd hq
      refine E_ra d_Mo_image_91 ev6 ?_
      obtain ⟨q8, eq8, hq⟩ := bd hq
      obtain ⟨p7, ep7, hq⟩ := bd hq
      refine E_cV1I d_Mo_image_92 ck_Mo_501 rfl rfl eq8 (Nat.le_of_ble_eq_true rfl) (Nat.le_of_ble_eq_true rfl) (t_Mo_keeps (by omega) ep7) ?_
      obtain ⟨h9, eh9, hq⟩ := bd hq
      refine E_wa d_Mo_image_95 eh9 ?_
      refine E_inc (v := 1) (ls' := [(2, .int (x2 + 1)), (0, .ref a0), (1, .int x1)]) 2 d_Mo_image_96 rfl (Nat.le_of_ble_eq_true rfl) (by decide) rfl ?_
      refine E_goto (tgt := 73) d_Mo_image_99 (by decide) ?_
      exact E_sub (ks := [1, 2, 0]) rfl <| ih _ _ _ _ _ hq
def f_Mo_image_35 : Nat → Nat → Int32 → Int32 → PH → Option (Int32 × PH)
  | 0, _, _, _, _ => none
  | n + 1, a0, x1, x2, h =>
    if 79 ≤ x2 then
      (isO h 9 a0).bind fun _ =>
      (f_Mo_keepsMany a0  h).bind fun h1 =>
      (isO h1 9 a0).bind fun _ =>
      (f_Mo_keepsTold a0  h1).bind fun h3 =>
      f_Mo_image_73 FU a0 x1 0 h3
    else
      (ldR h 9 a0 1).bind fun v5 =>
      (ldR h 9 a0 1).bind fun v6 =>
      (rdA h v6 x2).bind fun v7 =>
      (isO h 9 a0).bind fun _ =>
      (f_Mo_keeps a0 v7 h).bind fun p8 =>
      (wrA p8.2 v5 x2 p8.1).bind fun h10 =>
      f_Mo_image_35 n a0 x1 (x2 + 1) h10
theorem t_Mo_image_35 {d : Nat} (hd : 2 ≤ d) : ∀ (n : Nat) (a0 : Nat) (x1 : Int32) (x2 : Int32) (h : PH) (r : Int32 × PH), f_Mo_image_35 n a0 x1 x2 h = some r → E d 0 0 m_Mo_image 35 [(0, .ref a0), (1, .int x1), (2, .int x2)] [] h (PI r) := by
  intro n
  induction n with
  | zero => intro a0 x1 x2 h r hq; rw [f_Mo_image_35] at hq; cases hq
  | succ n ih =>
    intro a0 x1 x2 h r hq
    rw [f_Mo_image_35] at hq
    obtain ⟨d, rfl⟩ : ∃ e, d = e + 1 := ⟨d - 1, by omega⟩
    refine E_iln 2 d_Mo_image_35 rfl rfl ?_
    refine E_bi (v := 79) d_Mo_image_36 (by decide) ?_
    refine E_jge (tgt := 63) d_Mo_image_38 (by decide) (fun c => ?_) (fun c => ?_)
    · rw [if_pos c] at hq
      refine E_aln 0 d_Mo_image_63 rfl rfl ?_
      obtain ⟨q2, eq2, hq⟩ := bd hq
      obtain ⟨h1, eh1, hq⟩ := bd hq
      refine E_cV0V d_Mo_image_64 ck_Mo_507 rfl rfl eq2 (Nat.le_of_ble_eq_true rfl) (Nat.le_of_ble_eq_true rfl) (t_Mo_keepsMany (by omega) eh1) ?_
      refine E_aln 0 d_Mo_image_67 rfl rfl ?_
      obtain ⟨q4, eq4, hq⟩ := bd hq
      obtain ⟨h3, eh3, hq⟩ := bd hq
      refine E_cV0V d_Mo_image_68 ck_Mo_510 rfl rfl eq4 (Nat.le_of_ble_eq_true rfl) (Nat.le_of_ble_eq_true rfl) (t_Mo_keepsTold (by omega) eh3) ?_
      refine E_ic (v := 0) d_Mo_image_71 (by decide) ?_
      refine E_isn (ls' := [(2, .int 0), (0, .ref a0), (1, .int x1)]) d_Mo_image_72 (Nat.le_of_ble_eq_true rfl) rfl ?_
      exact E_sub (ks := [1, 2, 0]) rfl <| t_Mo_image_73 (by omega) _ _ _ _ _ _ hq
    · rw [if_neg c] at hq
      refine E_aln 0 d_Mo_image_41 rfl rfl ?_
      obtain ⟨v5, ev5, hq⟩ := bd hq
      refine E_gR d_Mo_image_42 lk_Mo_7 rfl ev5 ?_
      refine E_iln 2 d_Mo_image_45 rfl rfl ?_
      refine E_aln 0 d_Mo_image_46 rfl rfl ?_
      refine E_aln 0 d_Mo_image_47 rfl rfl ?_
      obtain ⟨v6, ev6, hq⟩ := bd hq
      refine E_gR d_Mo_image_48 lk_Mo_7 rfl ev6 ?_
      refine E_iln 2 d_Mo_image_51 rfl rfl ?_
      obtain ⟨v7, ev7, hq⟩ := bd hq
      refine E_ra d_Mo_image_52 ev7 ?_
      obtain ⟨q9, eq9, hq⟩ := bd hq
      obtain ⟨p8, ep8, hq⟩ := bd hq
      refine E_cV1I d_Mo_image_53 ck_Mo_501 rfl rfl eq9 (Nat.le_of_ble_eq_true rfl) (Nat.le_of_ble_eq_true rfl) (t_Mo_keeps (by omega) ep8) ?_
      obtain ⟨h10, eh10, hq⟩ := bd hq
      refine E_wa d_Mo_image_56 eh10 ?_
      refine E_inc (v := 1) (ls' := [(2, .int (x2 + 1)), (0, .ref a0), (1, .int x1)]) 2 d_Mo_image_57 rfl (Nat.le_of_ble_eq_true rfl) (by decide) rfl ?_
      refine E_goto (tgt := 35) d_Mo_image_60 (by decide) ?_
      exact E_sub (ks := [1, 2, 0]) rfl <| ih _ _ _ _ _ hq
def f_Mo_image_18 (a0 : Nat) (x1 : Int32) (h : PH) : Option (Int32 × PH) :=
  (stZ h 9 a0 70 x1).bind fun h1 =>
  (stZ h1 9 a0 71 1).bind fun h2 =>
  (stI h2 9 a0 72 0).bind fun h3 =>
  f_Mo_image_35 FU a0 x1 0 h3
theorem t_Mo_image_18 {d : Nat} (hd : 2 ≤ d) {a0 : Nat} {x1 : Int32} {h : PH} {r : Int32 × PH} (hq : f_Mo_image_18 a0 x1 h = some r) : E d 0 0 m_Mo_image 18 [(0, .ref a0), (1, .int x1)] [] h (PI r) := by
  unfold f_Mo_image_18 at hq
  obtain ⟨d, rfl⟩ : ∃ e, d = e + 1 := ⟨d - 1, by omega⟩
  refine E_aln 0 d_Mo_image_18 rfl rfl ?_
  refine E_iln 1 d_Mo_image_19 rfl rfl ?_
  obtain ⟨h1, eh1, hq⟩ := bd hq
  refine E_pZ d_Mo_image_20 lp_Mo_m_498 rfl eh1 ?_
  refine E_aln 0 d_Mo_image_23 rfl rfl ?_
  refine E_ic (v := 1) d_Mo_image_24 (by decide) ?_
  obtain ⟨h2, eh2, hq⟩ := bd hq
  refine E_pZ d_Mo_image_25 lp_Mo_m_504 rfl eh2 ?_
  refine E_aln 0 d_Mo_image_28 rfl rfl ?_
  refine E_ic (v := 0) d_Mo_image_29 (by decide) ?_
  obtain ⟨h3, eh3, hq⟩ := bd hq
  refine E_pI d_Mo_image_30 lp_Mo_m_495 rfl eh3 ?_
  refine E_ic (v := 0) d_Mo_image_33 (by decide) ?_
  refine E_isn (ls' := [(2, .int 0), (0, .ref a0), (1, .int x1)]) d_Mo_image_34 (Nat.le_of_ble_eq_true rfl) rfl ?_
  exact E_sub (ks := [1, 2, 0]) rfl <| t_Mo_image_35 (by omega) _ _ _ _ _ _ hq
def f_Mo_image (a0 : Nat) (x1 : Int32) (h : PH) : Option (Int32 × PH) :=
  (stI h 9 a0 0 0).bind fun h1 =>
  if x1 = 0 then
    (ldI h1 9 a0 71).bind fun v2 =>
    if v2 = 0 then
      rtZ 0 h1
    else
      f_Mo_image_18 a0 x1 h1
  else
    f_Mo_image_18 a0 x1 h1
theorem t_Mo_image {d : Nat} (hd : 2 ≤ d) {a0 : Nat} {x1 : Int32} {h : PH} {r : Int32 × PH} (hq : f_Mo_image a0 x1 h = some r) : E d 0 0 m_Mo_image 0 [(0, .ref a0), (1, .int x1)] [] h (PI r) := by
  unfold f_Mo_image at hq
  obtain ⟨d, rfl⟩ : ∃ e, d = e + 1 := ⟨d - 1, by omega⟩
  refine E_aln 0 d_Mo_image_0 rfl rfl ?_
  refine E_ic (v := 0) d_Mo_image_1 (by decide) ?_
  obtain ⟨h1, eh1, hq⟩ := bd hq
  refine E_pI d_Mo_image_2 lp_Mo_m_140 rfl eh1 ?_
  refine E_iln 1 d_Mo_image_5 rfl rfl ?_
  refine E_zne (tgt := 18) d_Mo_image_6 (by decide) (fun c => ?_) (fun c => ?_)
  · rw [if_neg c] at hq
    exact t_Mo_image_18 (by omega) hq
  · rw [if_pos c] at hq
    refine E_aln 0 d_Mo_image_9 rfl rfl ?_
    obtain ⟨v2, ev2, hq⟩ := bd hq
    refine E_gI d_Mo_image_10 lk_Mo_504 rfl ev2 ?_
    refine E_zne (tgt := 18) d_Mo_image_13 (by decide) (fun c => ?_) (fun c => ?_)
    · rw [if_neg c] at hq
      exact t_Mo_image_18 (by omega) hq
    · rw [if_pos c] at hq
      refine E_ic (v := 0) d_Mo_image_16 (by decide) ?_
      exact E_rZ d_Mo_image_17 rfl hq
def f_Mo_look (a0 : Nat) (x1 : Int32) (h : PH) : Option (Int32 × PH) :=
  (stI h 9 a0 0 0).bind fun h1 =>
  if x1 = 0 then
    (ldI h1 9 a0 6).bind fun v25 =>
    some (v25, h1)
  else
    if x1 = 1 then
      (ldI h1 9 a0 7).bind fun v24 =>
      some (v24, h1)
    else
      if x1 = 2 then
        (ldR h1 9 a0 1).bind fun v22 =>
        (rdA h1 v22 0).bind fun v23 =>
        some (v23, h1)
      else
        if x1 = 3 then
          (ldR h1 9 a0 1).bind fun v20 =>
          (rdA h1 v20 3).bind fun v21 =>
          some (v21, h1)
        else
          if x1 = 4 then
            (ldR h1 9 a0 1).bind fun v18 =>
            (rdA h1 v18 4).bind fun v19 =>
            some (v19, h1)
          else
            if x1 = 5 then
              (ldR h1 9 a0 1).bind fun v16 =>
              (rdA h1 v16 5).bind fun v17 =>
              some (v17, h1)
            else
              if x1 = 6 then
                (ldR h1 9 a0 1).bind fun v14 =>
                (rdA h1 v14 6).bind fun v15 =>
                some ((15 &&& (v15 ^^^ (-1))), h1)
              else
                if x1 = 7 then
                  (isO h1 9 a0).bind fun _ =>
                  (f_Mo_outSet a0  h1).bind fun p12 =>
                  some (p12.1, p12.2)
                else
                  if x1 = 8 then
                    (ldR h1 9 a0 1).bind fun v10 =>
                    (rdA h1 v10 2).bind fun v11 =>
                    some (v11, h1)
                  else
                    if x1 = 9 then
                      (ldR h1 9 a0 1).bind fun v8 =>
                      (rdA h1 v8 1).bind fun v9 =>
                      some (v9, h1)
                    else
                      if x1 = 10 then
                        (ldR h1 9 a0 20).bind fun v6 =>
                        (rdA h1 v6 0).bind fun v7 =>
                        some (v7, h1)
                      else
                        if x1 = 11 then
                          (ldI h1 9 a0 36).bind fun v5 =>
                          some (v5, h1)
                        else
                          if x1 = 12 then
                            (ldI h1 9 a0 38).bind fun v4 =>
                            some (v4, h1)
                          else
                            if x1 = 13 then
                              (ldI h1 9 a0 40).bind fun v3 =>
                              some (v3, h1)
                            else
                              if x1 = 14 then
                                (ldI h1 9 a0 3).bind fun v2 =>
                                some (v2, h1)
                              else
                                some ((-100000), h1)
theorem t_Mo_look {d : Nat} (hd : 1 ≤ d) {a0 : Nat} {x1 : Int32} {h : PH} {r : Int32 × PH} (hq : f_Mo_look a0 x1 h = some r) : E d 0 0 m_Mo_look 0 [(0, .ref a0), (1, .int x1)] [] h (PI r) := by
  unfold f_Mo_look at hq
  obtain ⟨d, rfl⟩ : ∃ e, d = e + 1 := ⟨d - 1, by omega⟩
  refine E_aln 0 d_Mo_look_0 rfl rfl ?_
  refine E_ic (v := 0) d_Mo_look_1 (by decide) ?_
  obtain ⟨h1, eh1, hq⟩ := bd hq
  refine E_pI d_Mo_look_2 lp_Mo_m_140 rfl eh1 ?_
  refine E_iln 1 d_Mo_look_5 rfl rfl ?_
  refine E_zne (tgt := 14) d_Mo_look_6 (by decide) (fun c => ?_) (fun c => ?_)
  · rw [if_neg c] at hq
    refine E_iln 1 d_Mo_look_14 rfl rfl ?_
    refine E_ic (v := 1) d_Mo_look_15 (by decide) ?_
    refine E_jne (tgt := 24) d_Mo_look_16 (by decide) (fun c => ?_) (fun c => ?_)
    · rw [if_neg c] at hq
      refine E_iln 1 d_Mo_look_24 rfl rfl ?_
      refine E_ic (v := 2) d_Mo_look_25 (by decide) ?_
      refine E_jne (tgt := 36) d_Mo_look_26 (by decide) (fun c => ?_) (fun c => ?_)
      · rw [if_neg c] at hq
        refine E_iln 1 d_Mo_look_36 rfl rfl ?_
        refine E_ic (v := 3) d_Mo_look_37 (by decide) ?_
        refine E_jne (tgt := 48) d_Mo_look_38 (by decide) (fun c => ?_) (fun c => ?_)
        · rw [if_neg c] at hq
          refine E_iln 1 d_Mo_look_48 rfl rfl ?_
          refine E_ic (v := 4) d_Mo_look_49 (by decide) ?_
          refine E_jne (tgt := 60) d_Mo_look_50 (by decide) (fun c => ?_) (fun c => ?_)
          · rw [if_neg c] at hq
            refine E_iln 1 d_Mo_look_60 rfl rfl ?_
            refine E_ic (v := 5) d_Mo_look_61 (by decide) ?_
            refine E_jne (tgt := 72) d_Mo_look_62 (by decide) (fun c => ?_) (fun c => ?_)
            · rw [if_neg c] at hq
              refine E_iln 1 d_Mo_look_72 rfl rfl ?_
              refine E_bi (v := 6) d_Mo_look_73 (by decide) ?_
              refine E_jne (tgt := 91) d_Mo_look_75 (by decide) (fun c => ?_) (fun c => ?_)
              · rw [if_neg c] at hq
                refine E_iln 1 d_Mo_look_91 rfl rfl ?_
                refine E_bi (v := 7) d_Mo_look_92 (by decide) ?_
                refine E_jne (tgt := 102) d_Mo_look_94 (by decide) (fun c => ?_) (fun c => ?_)
                · rw [if_neg c] at hq
                  refine E_iln 1 d_Mo_look_102 rfl rfl ?_
                  refine E_bi (v := 8) d_Mo_look_103 (by decide) ?_
                  refine E_jne (tgt := 115) d_Mo_look_105 (by decide) (fun c => ?_) (fun c => ?_)
                  · rw [if_neg c] at hq
                    refine E_iln 1 d_Mo_look_115 rfl rfl ?_
                    refine E_bi (v := 9) d_Mo_look_116 (by decide) ?_
                    refine E_jne (tgt := 128) d_Mo_look_118 (by decide) (fun c => ?_) (fun c => ?_)
                    · rw [if_neg c] at hq
                      refine E_iln 1 d_Mo_look_128 rfl rfl ?_
                      refine E_bi (v := 10) d_Mo_look_129 (by decide) ?_
                      refine E_jne (tgt := 141) d_Mo_look_131 (by decide) (fun c => ?_) (fun c => ?_)
                      · rw [if_neg c] at hq
                        refine E_iln 1 d_Mo_look_141 rfl rfl ?_
                        refine E_bi (v := 11) d_Mo_look_142 (by decide) ?_
                        refine E_jne (tgt := 152) d_Mo_look_144 (by decide) (fun c => ?_) (fun c => ?_)
                        · rw [if_neg c] at hq
                          refine E_iln 1 d_Mo_look_152 rfl rfl ?_
                          refine E_bi (v := 12) d_Mo_look_153 (by decide) ?_
                          refine E_jne (tgt := 163) d_Mo_look_155 (by decide) (fun c => ?_) (fun c => ?_)
                          · rw [if_neg c] at hq
                            refine E_iln 1 d_Mo_look_163 rfl rfl ?_
                            refine E_bi (v := 13) d_Mo_look_164 (by decide) ?_
                            refine E_jne (tgt := 174) d_Mo_look_166 (by decide) (fun c => ?_) (fun c => ?_)
                            · rw [if_neg c] at hq
                              refine E_iln 1 d_Mo_look_174 rfl rfl ?_
                              refine E_bi (v := 14) d_Mo_look_175 (by decide) ?_
                              refine E_jne (tgt := 187) d_Mo_look_177 (by decide) (fun c => ?_) (fun c => ?_)
                              · rw [if_neg c] at hq
                                refine E_ldcw d_Mo_look_187 kc_Mo_516 ?_
                                exact E_rI d_Mo_look_190 rfl hq
                              · rw [if_pos c] at hq
                                refine E_aln 0 d_Mo_look_180 rfl rfl ?_
                                obtain ⟨v2, ev2, hq⟩ := bd hq
                                refine E_gI d_Mo_look_181 lk_Mo_143 rfl ev2 ?_
                                refine E_goto (tgt := 190) d_Mo_look_184 (by decide) ?_
                                exact E_rI d_Mo_look_190 rfl hq
                            · rw [if_pos c] at hq
                              refine E_aln 0 d_Mo_look_169 rfl rfl ?_
                              obtain ⟨v3, ev3, hq⟩ := bd hq
                              refine E_gI d_Mo_look_170 lk_Mo_318 rfl ev3 ?_
                              exact E_rI d_Mo_look_173 rfl hq
                          · rw [if_pos c] at hq
                            refine E_aln 0 d_Mo_look_158 rfl rfl ?_
                            obtain ⟨v4, ev4, hq⟩ := bd hq
                            refine E_gI d_Mo_look_159 lk_Mo_315 rfl ev4 ?_
                            exact E_rI d_Mo_look_162 rfl hq
                        · rw [if_pos c] at hq
                          refine E_aln 0 d_Mo_look_147 rfl rfl ?_
                          obtain ⟨v5, ev5, hq⟩ := bd hq
                          refine E_gI d_Mo_look_148 lk_Mo_312 rfl ev5 ?_
                          exact E_rI d_Mo_look_151 rfl hq
                      · rw [if_pos c] at hq
                        refine E_aln 0 d_Mo_look_134 rfl rfl ?_
                        obtain ⟨v6, ev6, hq⟩ := bd hq
                        refine E_gR d_Mo_look_135 lk_Mo_40 rfl ev6 ?_
                        refine E_ic (v := 0) d_Mo_look_138 (by decide) ?_
                        obtain ⟨v7, ev7, hq⟩ := bd hq
                        refine E_ra d_Mo_look_139 ev7 ?_
                        exact E_rI d_Mo_look_140 rfl hq
                    · rw [if_pos c] at hq
                      refine E_aln 0 d_Mo_look_121 rfl rfl ?_
                      obtain ⟨v8, ev8, hq⟩ := bd hq
                      refine E_gR d_Mo_look_122 lk_Mo_7 rfl ev8 ?_
                      refine E_ic (v := 1) d_Mo_look_125 (by decide) ?_
                      obtain ⟨v9, ev9, hq⟩ := bd hq
                      refine E_ra d_Mo_look_126 ev9 ?_
                      exact E_rI d_Mo_look_127 rfl hq
                  · rw [if_pos c] at hq
                    refine E_aln 0 d_Mo_look_108 rfl rfl ?_
                    obtain ⟨v10, ev10, hq⟩ := bd hq
                    refine E_gR d_Mo_look_109 lk_Mo_7 rfl ev10 ?_
                    refine E_ic (v := 2) d_Mo_look_112 (by decide) ?_
                    obtain ⟨v11, ev11, hq⟩ := bd hq
                    refine E_ra d_Mo_look_113 ev11 ?_
                    exact E_rI d_Mo_look_114 rfl hq
                · rw [if_pos c] at hq
                  refine E_aln 0 d_Mo_look_97 rfl rfl ?_
                  obtain ⟨q13, eq13, hq⟩ := bd hq
                  obtain ⟨p12, ep12, hq⟩ := bd hq
                  refine E_cV0I d_Mo_look_98 ck_Mo_342 rfl rfl eq13 (Nat.le_of_ble_eq_true rfl) (Nat.le_of_ble_eq_true rfl) (t_Mo_outSet (by omega) ep12) ?_
                  exact E_rI d_Mo_look_101 rfl hq
              · rw [if_pos c] at hq
                refine E_bi (v := 15) d_Mo_look_78 (by decide) ?_
                refine E_aln 0 d_Mo_look_80 rfl rfl ?_
                obtain ⟨v14, ev14, hq⟩ := bd hq
                refine E_gR d_Mo_look_81 lk_Mo_7 rfl ev14 ?_
                refine E_bi (v := 6) d_Mo_look_84 (by decide) ?_
                obtain ⟨v15, ev15, hq⟩ := bd hq
                refine E_ra d_Mo_look_86 ev15 ?_
                refine E_ic (v := (-1)) d_Mo_look_87 (by decide) ?_
                refine E_ixor d_Mo_look_88 ?_
                refine E_iand d_Mo_look_89 ?_
                exact E_rI d_Mo_look_90 rfl hq
            · rw [if_pos c] at hq
              refine E_aln 0 d_Mo_look_65 rfl rfl ?_
              obtain ⟨v16, ev16, hq⟩ := bd hq
              refine E_gR d_Mo_look_66 lk_Mo_7 rfl ev16 ?_
              refine E_ic (v := 5) d_Mo_look_69 (by decide) ?_
              obtain ⟨v17, ev17, hq⟩ := bd hq
              refine E_ra d_Mo_look_70 ev17 ?_
              exact E_rI d_Mo_look_71 rfl hq
          · rw [if_pos c] at hq
            refine E_aln 0 d_Mo_look_53 rfl rfl ?_
            obtain ⟨v18, ev18, hq⟩ := bd hq
            refine E_gR d_Mo_look_54 lk_Mo_7 rfl ev18 ?_
            refine E_ic (v := 4) d_Mo_look_57 (by decide) ?_
            obtain ⟨v19, ev19, hq⟩ := bd hq
            refine E_ra d_Mo_look_58 ev19 ?_
            exact E_rI d_Mo_look_59 rfl hq
        · rw [if_pos c] at hq
          refine E_aln 0 d_Mo_look_41 rfl rfl ?_
          obtain ⟨v20, ev20, hq⟩ := bd hq
          refine E_gR d_Mo_look_42 lk_Mo_7 rfl ev20 ?_
          refine E_ic (v := 3) d_Mo_look_45 (by decide) ?_
          obtain ⟨v21, ev21, hq⟩ := bd hq
          refine E_ra d_Mo_look_46 ev21 ?_
          exact E_rI d_Mo_look_47 rfl hq
      · rw [if_pos c] at hq
        refine E_aln 0 d_Mo_look_29 rfl rfl ?_
        obtain ⟨v22, ev22, hq⟩ := bd hq
        refine E_gR d_Mo_look_30 lk_Mo_7 rfl ev22 ?_
        refine E_ic (v := 0) d_Mo_look_33 (by decide) ?_
        obtain ⟨v23, ev23, hq⟩ := bd hq
        refine E_ra d_Mo_look_34 ev23 ?_
        exact E_rI d_Mo_look_35 rfl hq
    · rw [if_pos c] at hq
      refine E_aln 0 d_Mo_look_19 rfl rfl ?_
      obtain ⟨v24, ev24, hq⟩ := bd hq
      refine E_gI d_Mo_look_20 lk_Mo_155 rfl ev24 ?_
      exact E_rI d_Mo_look_23 rfl hq
  · rw [if_pos c] at hq
    refine E_aln 0 d_Mo_look_9 rfl rfl ?_
    obtain ⟨v25, ev25, hq⟩ := bd hq
    refine E_gI d_Mo_look_10 lk_Mo_152 rfl ev25 ?_
    exact E_rI d_Mo_look_13 rfl hq
