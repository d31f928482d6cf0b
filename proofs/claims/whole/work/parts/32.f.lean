def f_Mo_suspectSet_4 : Nat → Nat → Int32 → Int32 → PH → Option (Int32 × PH)
  | 0, _, _, _, _ => none
  | n + 1, a0, x1, x2, h =>
    (ldI h 9 a0 55).bind fun v1 =>
    if v1 ≤ x2 then
      some (x1, h)
    else
      (isO h 9 a0).bind fun _ =>
      (f_Mo_isSuspect a0 x2 h).bind fun p2 =>
      if p2.1 = 0 then
        f_Mo_suspectSet_4 n a0 x1 (x2 + 1) p2.2
      else
        f_Mo_suspectSet_4 n a0 (x1 ||| (jshl 1 x2)) (x2 + 1) p2.2
theorem t_Mo_suspectSet_4 {d : Nat} (hd : 2 ≤ d) : ∀ (n : Nat) (a0 : Nat) (x1 : Int32) (x2 : Int32) (h : PH) (r : Int32 × PH), f_Mo_suspectSet_4 n a0 x1 x2 h = some r → E d 0 0 m_Mo_suspectSet 4 [(0, .ref a0), (1, .int x1), (2, .int x2)] [] h (PI r) := by
  intro n
  induction n with
  | zero => intro a0 x1 x2 h r hq; rw [f_Mo_suspectSet_4] at hq; cases hq
  | succ n ih =>
    intro a0 x1 x2 h r hq
    rw [f_Mo_suspectSet_4] at hq
    obtain ⟨d, rfl⟩ : ∃ e, d = e + 1 := ⟨d - 1, by omega⟩
    refine E_iln 2 d_Mo_suspectSet_4 rfl rfl ?_
    refine E_aln 0 d_Mo_suspectSet_5 rfl rfl ?_
    obtain ⟨v1, ev1, hq⟩ := bd hq
    refine E_gI d_Mo_suspectSet_6 lk_Mo_440 rfl ev1 ?_
    refine E_jge (tgt := 32) d_Mo_suspectSet_9 (by decide) (fun c => ?_) (fun c => ?_)
    · rw [if_pos c] at hq
      refine E_iln 1 d_Mo_suspectSet_32 rfl rfl ?_
      exact E_rI d_Mo_suspectSet_33 rfl hq
    · rw [if_neg c] at hq
      refine E_aln 0 d_Mo_suspectSet_12 rfl rfl ?_
      refine E_iln 2 d_Mo_suspectSet_13 rfl rfl ?_
      obtain ⟨q3, eq3, hq⟩ := bd hq
      obtain ⟨p2, ep2, hq⟩ := bd hq
      refine E_cV1I d_Mo_suspectSet_14 ck_Mo_446 rfl rfl eq3 (Nat.le_of_ble_eq_true rfl) (Nat.le_of_ble_eq_true rfl) (t_Mo_isSuspect (by omega) ep2) ?_
      refine E_zeq (tgt := 26) d_Mo_suspectSet_17 (by decide) (fun c => ?_) (fun c => ?_)
      · rw [if_pos c] at hq
        refine E_inc (v := 1) (ls' := [(2, .int (x2 + 1)), (0, .ref a0), (1, .int x1)]) 2 d_Mo_suspectSet_26 rfl (Nat.le_of_ble_eq_true rfl) (by decide) rfl ?_
        refine E_goto (tgt := 4) d_Mo_suspectSet_29 (by decide) ?_
        exact E_sub (ks := [1, 2, 0]) rfl <| ih _ _ _ _ _ hq
      · rw [if_neg c] at hq
        refine E_iln 1 d_Mo_suspectSet_20 rfl rfl ?_
        refine E_ic (v := 1) d_Mo_suspectSet_21 (by decide) ?_
        refine E_iln 2 d_Mo_suspectSet_22 rfl rfl ?_
        refine E_ishl d_Mo_suspectSet_23 ?_
        refine E_ior d_Mo_suspectSet_24 ?_
        refine E_isn (ls' := [(1, .int (x1 ||| (jshl 1 x2))), (0, .ref a0), (2, .int x2)]) d_Mo_suspectSet_25 (Nat.le_of_ble_eq_true rfl) rfl ?_
        refine E_inc (v := 1) (ls' := [(2, .int (x2 + 1)), (1, .int (x1 ||| (jshl 1 x2))), (0, .ref a0)]) 2 d_Mo_suspectSet_26 rfl (Nat.le_of_ble_eq_true rfl) (by decide) rfl ?_
        refine E_goto (tgt := 4) d_Mo_suspectSet_29 (by decide) ?_
        exact E_sub (ks := [2, 1, 0]) rfl <| ih _ _ _ _ _ hq
def f_Mo_suspectSet (a0 : Nat) (h : PH) : Option (Int32 × PH) :=
  f_Mo_suspectSet_4 FU a0 0 0 h
theorem t_Mo_suspectSet {d : Nat} (hd : 2 ≤ d) {a0 : Nat} {h : PH} {r : Int32 × PH} (hq : f_Mo_suspectSet a0 h = some r) : E d 0 0 m_Mo_suspectSet 0 [(0, .ref a0)] [] h (PI r) := by
  unfold f_Mo_suspectSet at hq
  obtain ⟨d, rfl⟩ : ∃ e, d = e + 1 := ⟨d - 1, by omega⟩
  refine E_ic (v := 0) d_Mo_suspectSet_0 (by decide) ?_
  refine E_isn (ls' := [(1, .int 0), (0, .ref a0)]) d_Mo_suspectSet_1 (Nat.le_of_ble_eq_true rfl) rfl ?_
  refine E_ic (v := 0) d_Mo_suspectSet_2 (by decide) ?_
  refine E_isn (ls' := [(2, .int 0), (1, .int 0), (0, .ref a0)]) d_Mo_suspectSet_3 (Nat.le_of_ble_eq_true rfl) rfl ?_
  exact E_sub (ks := [2, 1, 0]) rfl <| t_Mo_suspectSet_4 (by omega) _ _ _ _ _ _ hq
def f_Mo_suspects_120 (k49 : Nat → Int32 → Int32 → Int32 → Int32 → PH → Option (Int32 × PH)) (k58 : Nat → Int32 → Int32 → Int32 → Int32 → Int32 → PH → Option (Int32 × PH)) (a0 : Nat) (x2 : Int32) (x4 : Int32) (x5 : Int32) (x6 : Int32) (x7 : Int32) (s0 : Int32) (h : PH) : Option (Int32 × PH) :=
  (isO h 9 a0).bind fun _ =>
  (f_Mo_lesser a0 x4 x7 h).bind fun p1 =>
  k58 a0 x2 s0 p1.1 x5 (x6 + 1) p1.2
theorem t_Mo_suspects_120 {d : Nat} (hd : 3 ≤ d) {k49 : Nat → Int32 → Int32 → Int32 → Int32 → PH → Option (Int32 × PH)} (hk49 : ∀ (a0 : Nat) (x2 : Int32) (x3 : Int32) (x4 : Int32) (x5 : Int32) (h : PH) (r : Int32 × PH), k49 a0 x2 x3 x4 x5 h = some r → E d 0 0 m_Mo_suspects 49 [(0, .ref a0), (2, .int x2), (3, .int x3), (4, .int x4), (5, .int x5)] [] h (PI r)) {k58 : Nat → Int32 → Int32 → Int32 → Int32 → Int32 → PH → Option (Int32 × PH)} (hk58 : ∀ (a0 : Nat) (x2 : Int32) (x3 : Int32) (x4 : Int32) (x5 : Int32) (x6 : Int32) (h : PH) (r : Int32 × PH), k58 a0 x2 x3 x4 x5 x6 h = some r → E d 0 0 m_Mo_suspects 58 [(0, .ref a0), (2, .int x2), (3, .int x3), (4, .int x4), (5, .int x5), (6, .int x6)] [] h (PI r)) {a0 : Nat} {x2 : Int32} {x4 : Int32} {x5 : Int32} {x6 : Int32} {x7 : Int32} {s0 : Int32} {h : PH} {r : Int32 × PH} (hq : f_Mo_suspects_120 k49 k58 a0 x2 x4 x5 x6 x7 s0 h = some r) : E d 0 0 m_Mo_suspects 120 [(0, .ref a0), (2, .int x2), (4, .int x4), (5, .int x5), (6, .int x6), (7, .int x7)] [.int s0] h (PI r) := by
  unfold f_Mo_suspects_120 at hq
  obtain ⟨d, rfl⟩ : ∃ e, d = e + 1 := ⟨d - 1, by omega⟩
  refine E_isn (ls' := [(3, .int s0), (0, .ref a0), (2, .int x2), (4, .int x4), (5, .int x5), (6, .int x6), (7, .int x7)]) d_Mo_suspects_120 (Nat.le_of_ble_eq_true rfl) rfl ?_
  refine E_aln 1 d_Mo_suspects_121 rfl rfl ?_
  refine E_il 3 d_Mo_suspects_122 rfl ?_
  refine E_il 6 d_Mo_suspects_124 rfl ?_
  obtain ⟨q2, eq2, hq⟩ := bd hq
  obtain ⟨p1, ep1, hq⟩ := bd hq
  refine E_cV2I d_Mo_suspects_126 ck_Mo_369 rfl rfl eq2 (Nat.le_of_ble_eq_true rfl) (Nat.le_of_ble_eq_true rfl) (t_Mo_lesser (by omega) ep1) ?_
  refine E_is (ls' := [(4, .int p1.1), (3, .int s0), (0, .ref a0), (2, .int x2), (5, .int x5), (6, .int x6), (7, .int x7)]) d_Mo_suspects_129 (Nat.le_of_ble_eq_true rfl) rfl ?_
  refine E_inc (v := 1) (ls' := [(6, .int (x6 + 1)), (4, .int p1.1), (3, .int s0), (0, .ref a0), (2, .int x2), (5, .int x5), (7, .int x7)]) 5 d_Mo_suspects_131 rfl (Nat.le_of_ble_eq_true rfl) (by decide) rfl ?_
  refine E_goto (tgt := 58) d_Mo_suspects_134 (by decide) ?_
  exact E_sub (ks := [3, 4, 2, 1, 5, 0]) rfl <| hk58 _ _ _ _ _ _ _ _ hq
def f_Mo_suspects_58 (k49 : Nat → Int32 → Int32 → Int32 → Int32 → PH → Option (Int32 × PH)) : Nat → Nat → Int32 → Int32 → Int32 → Int32 → Int32 → PH → Option (Int32 × PH)
  | 0, _, _, _, _, _, _, _ => none
  | n + 1, a0, x2, x3, x4, x5, x6, h =>
    (ldI h 9 a0 55).bind fun v1 =>
    if (jshl 1 v1) ≤ x6 then
      k49 a0 x2 x3 x4 (x5 + 1) h
    else
      (isO h 9 a0).bind fun _ =>
      (f_Mo_onesOf a0 x6 h).bind fun p2 =>
      if p2.1 = x5 then
        (isO p2.2 9 a0).bind fun _ =>
        (f_Mo_onesOf a0 (x2 &&& x6) p2.2).bind fun p4 =>
        (isO p4.2 9 a0).bind fun _ =>
        (f_Mo_onesOf a0 (x2 &&& (x6 ^^^ (-1))) p4.2).bind fun p6 =>
        (isO p6.2 9 a0).bind fun _ =>
        (f_Mo_greater a0 p4.1 p6.1 p6.2).bind fun p8 =>
        if x4 ≤ p8.1 then
          f_Mo_suspects_120 k49 (fun a0 x2 x3 x4 x5 x6 h => f_Mo_suspects_58 k49 n a0 x2 x3 x4 x5 x6 h) a0 x2 x4 x5 x6 p8.1 x3 p8.2
        else
          f_Mo_suspects_120 k49 (fun a0 x2 x3 x4 x5 x6 h => f_Mo_suspects_58 k49 n a0 x2 x3 x4 x5 x6 h) a0 x2 x4 x5 x6 p8.1 x6 p8.2
      else
        f_Mo_suspects_58 k49 n a0 x2 x3 x4 x5 (x6 + 1) p2.2
theorem t_Mo_suspects_58 {d : Nat} (hd : 3 ≤ d) {k49 : Nat → Int32 → Int32 → Int32 → Int32 → PH → Option (Int32 × PH)} (hk49 : ∀ (a0 : Nat) (x2 : Int32) (x3 : Int32) (x4 : Int32) (x5 : Int32) (h : PH) (r : Int32 × PH), k49 a0 x2 x3 x4 x5 h = some r → E d 0 0 m_Mo_suspects 49 [(0, .ref a0), (2, .int x2), (3, .int x3), (4, .int x4), (5, .int x5)] [] h (PI r)) : ∀ (n : Nat) (a0 : Nat) (x2 : Int32) (x3 : Int32) (x4 : Int32) (x5 : Int32) (x6 : Int32) (h : PH) (r : Int32 × PH), f_Mo_suspects_58 k49 n a0 x2 x3 x4 x5 x6 h = some r → E d 0 0 m_Mo_suspects 58 [(0, .ref a0), (2, .int x2), (3, .int x3), (4, .int x4), (5, .int x5), (6, .int x6)] [] h (PI r) := by
  intro n
  induction n with
  | zero => intro a0 x2 x3 x4 x5 x6 h r hq; rw [f_Mo_suspects_58] at hq; cases hq
  | succ n ih =>
    intro a0 x2 x3 x4 x5 x6 h r hq
    rw [f_Mo_suspects_58] at hq
    obtain ⟨d, rfl⟩ : ∃ e, d = e + 1 := ⟨d - 1, by omega⟩
    refine E_il 5 d_Mo_suspects_58 rfl ?_
    refine E_ic (v := 1) d_Mo_suspects_60 (by decide) ?_
    refine E_aln 0 d_Mo_suspects_61 rfl rfl ?_
    obtain ⟨v1, ev1, hq⟩ := bd hq
    refine E_gI d_Mo_suspects_62 lk_Mo_440 rfl ev1 ?_
    refine E_ishl d_Mo_suspects_65 ?_
    refine E_jge (tgt := 137) d_Mo_suspects_66 (by decide) (fun c => ?_) (fun c => ?_)
    · rw [if_pos c] at hq
      refine E_inc (v := 1) (ls' := [(5, .int (x5 + 1)), (0, .ref a0), (2, .int x2), (3, .int x3), (4, .int x4), (6, .int x6)]) 4 d_Mo_suspects_137 rfl (Nat.le_of_ble_eq_true rfl) (by decide) rfl ?_
      refine E_goto (tgt := 49) d_Mo_suspects_140 (by decide) ?_
      exact E_sub (ks := [1, 2, 3, 4, 0]) rfl <| hk49 _ _ _ _ _ _ _ hq
    · rw [if_neg c] at hq
      refine E_aln 0 d_Mo_suspects_69 rfl rfl ?_
      refine E_il 5 d_Mo_suspects_70 rfl ?_
      obtain ⟨q3, eq3, hq⟩ := bd hq
      obtain ⟨p2, ep2, hq⟩ := bd hq
      refine E_cV1I d_Mo_suspects_72 ck_Mo_345 rfl rfl eq3 (Nat.le_of_ble_eq_true rfl) (Nat.le_of_ble_eq_true rfl) (t_Mo_onesOf (by omega) ep2) ?_
      refine E_il 4 d_Mo_suspects_75 rfl ?_
      refine E_jeq (tgt := 83) d_Mo_suspects_77 (by decide) (fun c => ?_) (fun c => ?_)
      · rw [if_pos c] at hq
        refine E_aln 0 d_Mo_suspects_83 rfl rfl ?_
        refine E_aln 0 d_Mo_suspects_84 rfl rfl ?_
        refine E_iln 1 d_Mo_suspects_85 rfl rfl ?_
        refine E_il 5 d_Mo_suspects_86 rfl ?_
        refine E_iand d_Mo_suspects_88 ?_
        obtain ⟨q5, eq5, hq⟩ := bd hq
        obtain ⟨p4, ep4, hq⟩ := bd hq
        refine E_cV1I d_Mo_suspects_89 ck_Mo_345 rfl rfl eq5 (Nat.le_of_ble_eq_true rfl) (Nat.le_of_ble_eq_true rfl) (t_Mo_onesOf (by omega) ep4) ?_
        refine E_aln 0 d_Mo_suspects_92 rfl rfl ?_
        refine E_iln 1 d_Mo_suspects_93 rfl rfl ?_
        refine E_il 5 d_Mo_suspects_94 rfl ?_
        refine E_ic (v := (-1)) d_Mo_suspects_96 (by decide) ?_
        refine E_ixor d_Mo_suspects_97 ?_
        refine E_iand d_Mo_suspects_98 ?_
        obtain ⟨q7, eq7, hq⟩ := bd hq
        obtain ⟨p6, ep6, hq⟩ := bd hq
        refine E_cV1I d_Mo_suspects_99 ck_Mo_345 rfl rfl eq7 (Nat.le_of_ble_eq_true rfl) (Nat.le_of_ble_eq_true rfl) (t_Mo_onesOf (by omega) ep6) ?_
        obtain ⟨q9, eq9, hq⟩ := bd hq
        obtain ⟨p8, ep8, hq⟩ := bd hq
        refine E_cV2I d_Mo_suspects_102 ck_Mo_339 rfl rfl eq9 (Nat.le_of_ble_eq_true rfl) (Nat.le_of_ble_eq_true rfl) (t_Mo_greater (by omega) ep8) ?_
        refine E_is (ls' := [(7, .int p8.1), (0, .ref a0), (2, .int x2), (3, .int x3), (4, .int x4), (5, .int x5), (6, .int x6)]) d_Mo_suspects_105 (Nat.le_of_ble_eq_true rfl) rfl ?_
        refine E_il 0 d_Mo_suspects_107 rfl ?_
        refine E_il 4 d_Mo_suspects_109 rfl ?_
        refine E_jge (tgt := 119) d_Mo_suspects_111 (by decide) (fun c => ?_) (fun c => ?_)
        · rw [if_pos c] at hq
          refine E_iln 3 d_Mo_suspects_119 rfl rfl ?_
          exact E_sub (ks := [1, 2, 4, 5, 6, 0]) rfl <| t_Mo_suspects_120 (by omega) hk49 ih hq
        · rw [if_neg c] at hq
          refine E_il 6 d_Mo_suspects_114 rfl ?_
          refine E_goto (tgt := 120) d_Mo_suspects_116 (by decide) ?_
          exact E_sub (ks := [1, 2, 4, 5, 6, 0]) rfl <| t_Mo_suspects_120 (by omega) hk49 ih hq
      · rw [if_neg c] at hq
        refine E_goto (tgt := 131) d_Mo_suspects_80 (by decide) ?_
        refine E_inc (v := 1) (ls' := [(6, .int (x6 + 1)), (0, .ref a0), (2, .int x2), (3, .int x3), (4, .int x4), (5, .int x5)]) 5 d_Mo_suspects_131 rfl (Nat.le_of_ble_eq_true rfl) (by decide) rfl ?_
        refine E_goto (tgt := 58) d_Mo_suspects_134 (by decide) ?_
        exact E_sub (ks := [1, 2, 3, 4, 5, 0]) rfl <| ih _ _ _ _ _ _ _ _ hq
def f_Mo_suspects_49 : Nat → Nat → Int32 → Int32 → Int32 → Int32 → PH → Option (Int32 × PH)
  | 0, _, _, _, _, _, _ => none
  | n + 1, a0, x2, x3, x4, x5, h =>
    if 3 < x5 then
      some (x3, h)
    else
      f_Mo_suspects_58 (fun a0 x2 x3 x4 x5 h => f_Mo_suspects_49 n a0 x2 x3 x4 x5 h) FU a0 x2 x3 x4 x5 0 h
theorem t_Mo_suspects_49 {d : Nat} (hd : 3 ≤ d) : ∀ (n : Nat) (a0 : Nat) (x2 : Int32) (x3 : Int32) (x4 : Int32) (x5 : Int32) (h : PH) (r : Int32 × PH), f_Mo_suspects_49 n a0 x2 x3 x4 x5 h = some r → E d 0 0 m_Mo_suspects 49 [(0, .ref a0), (2, .int x2), (3, .int x3), (4, .int x4), (5, .int x5)] [] h (PI r) := by
  intro n
  induction n with
  | zero => intro a0 x2 x3 x4 x5 h r hq; rw [f_Mo_suspects_49] at hq; cases hq
  | succ n ih =>
    intro a0 x2 x3 x4 x5 h r hq
    rw [f_Mo_suspects_49] at hq
    obtain ⟨d, rfl⟩ : ∃ e, d = e + 1 := ⟨d - 1, by omega⟩
    refine E_il 4 d_Mo_suspects_49 rfl ?_
    refine E_ic (v := 3) d_Mo_suspects_51 (by decide) ?_
    refine E_jgt (tgt := 143) d_Mo_suspects_52 (by decide) (fun c => ?_) (fun c => ?_)
    · rw [if_pos c] at hq
      refine E_iln 2 d_Mo_suspects_143 rfl rfl ?_
      exact E_rI d_Mo_suspects_144 rfl hq
    · rw [if_neg c] at hq
      refine E_ic (v := 0) d_Mo_suspects_55 (by decide) ?_
      refine E_is (ls' := [(6, .int 0), (0, .ref a0), (2, .int x2), (3, .int x3), (4, .int x4), (5, .int x5)]) d_Mo_suspects_56 (Nat.le_of_ble_eq_true rfl) rfl ?_
      exact E_sub (ks := [1, 2, 3, 4, 5, 0]) rfl <| t_Mo_suspects_58 (by omega) ih _ _ _ _ _ _ _ _ _ hq
def f_Mo_suspects (a0 : Nat) (x1 : Int32) (h : PH) : Option (Int32 × PH) :=
  (stI h 9 a0 0 0).bind fun h1 =>
  (isO h1 9 a0).bind fun _ =>
  (f_Mo_isIn a0 x1 0 1 h1).bind fun p2 =>
  if p2.1 = 0 then
    some ((-1), p2.2)
  else
    (isO p2.2 9 a0).bind fun _ =>
    (f_Mo_suspectSet a0  p2.2).bind fun p4 =>
    if x1 = 0 then
      some (p4.1, p4.2)
    else
      (isO p4.2 9 a0).bind fun _ =>
      (f_Mo_onesOf a0 p4.1 p4.2).bind fun p6 =>
      if 2 ≤ p6.1 then
        f_Mo_suspects_49 FU a0 p4.1 (-1) 100000000 2 p6.2
      else
        some ((-1), p6.2)
theorem t_Mo_suspects {d : Nat} (hd : 3 ≤ d) {a0 : Nat} {x1 : Int32} {h : PH} {r : Int32 × PH} (hq : f_Mo_suspects a0 x1 h = some r) : E d 0 0 m_Mo_suspects 0 [(0, .ref a0), (1, .int x1)] [] h (PI r) := by
  unfold f_Mo_suspects at hq
  obtain ⟨d, rfl⟩ : ∃ e, d = e + 1 := ⟨d - 1, by omega⟩
  refine E_aln 0 d_Mo_suspects_0 rfl rfl ?_
  refine E_ic (v := 0) d_Mo_suspects_1 (by decide) ?_
  obtain ⟨h1, eh1, hq⟩ := bd hq
  refine E_pI d_Mo_suspects_2 lp_Mo_m_140 rfl eh1 ?_
  refine E_aln 0 d_Mo_suspects_5 rfl rfl ?_
  refine E_iln 1 d_Mo_suspects_6 rfl rfl ?_
  refine E_ic (v := 0) d_Mo_suspects_7 (by decide) ?_
  refine E_ic (v := 1) d_Mo_suspects_8 (by decide) ?_
  obtain ⟨q3, eq3, hq⟩ := bd hq
  obtain ⟨p2, ep2, hq⟩ := bd hq
  refine E_cV3I d_Mo_suspects_9 ck_Mo_162 rfl rfl eq3 (Nat.le_of_ble_eq_true rfl) (Nat.le_of_ble_eq_true rfl) (t_Mo_isIn (by omega) ep2) ?_
  refine E_zne (tgt := 17) d_Mo_suspects_12 (by decide) (fun c => ?_) (fun c => ?_)
  · rw [if_neg c] at hq
    refine E_aln 0 d_Mo_suspects_17 rfl rfl ?_
    obtain ⟨q5, eq5, hq⟩ := bd hq
    obtain ⟨p4, ep4, hq⟩ := bd hq
    refine E_cV0I d_Mo_suspects_18 ck_Mo_449 rfl rfl eq5 (Nat.le_of_ble_eq_true rfl) (Nat.le_of_ble_eq_true rfl) (t_Mo_suspectSet (by omega) ep4) ?_
    refine E_isn (ls' := [(2, .int p4.1), (0, .ref a0), (1, .int x1)]) d_Mo_suspects_21 (Nat.le_of_ble_eq_true rfl) rfl ?_
    refine E_iln 2 d_Mo_suspects_22 rfl rfl ?_
    refine E_zne (tgt := 28) d_Mo_suspects_23 (by decide) (fun c => ?_) (fun c => ?_)
    · rw [if_neg c] at hq
      refine E_aln 1 d_Mo_suspects_28 rfl rfl ?_
      refine E_iln 0 d_Mo_suspects_29 rfl rfl ?_
      obtain ⟨q7, eq7, hq⟩ := bd hq
      obtain ⟨p6, ep6, hq⟩ := bd hq
      refine E_cV1I d_Mo_suspects_30 ck_Mo_345 rfl rfl eq7 (Nat.le_of_ble_eq_true rfl) (Nat.le_of_ble_eq_true rfl) (t_Mo_onesOf (by omega) ep6) ?_
      refine E_ic (v := 2) d_Mo_suspects_33 (by decide) ?_
      refine E_jge (tgt := 39) d_Mo_suspects_34 (by decide) (fun c => ?_) (fun c => ?_)
      · rw [if_pos c] at hq
        refine E_ic (v := (-1)) d_Mo_suspects_39 (by decide) ?_
        refine E_isn (ls' := [(3, .int (-1)), (2, .int p4.1), (0, .ref a0), (1, .int x1)]) d_Mo_suspects_40 (Nat.le_of_ble_eq_true rfl) rfl ?_
        refine E_ldcw d_Mo_suspects_41 kc_Mo_430 ?_
        refine E_is (ls' := [(4, .int 100000000), (3, .int (-1)), (2, .int p4.1), (0, .ref a0), (1, .int x1)]) d_Mo_suspects_44 (Nat.le_of_ble_eq_true rfl) rfl ?_
        refine E_ic (v := 2) d_Mo_suspects_46 (by decide) ?_
        refine E_is (ls' := [(5, .int 2), (4, .int 100000000), (3, .int (-1)), (2, .int p4.1), (0, .ref a0), (1, .int x1)]) d_Mo_suspects_47 (Nat.le_of_ble_eq_true rfl) rfl ?_
        exact E_sub (ks := [4, 3, 2, 1, 0]) rfl <| t_Mo_suspects_49 (by omega) _ _ _ _ _ _ _ _ hq
      · rw [if_neg c] at hq
        refine E_ic (v := (-1)) d_Mo_suspects_37 (by decide) ?_
        exact E_rI d_Mo_suspects_38 rfl hq
    · rw [if_pos c] at hq
      refine E_iln 0 d_Mo_suspects_26 rfl rfl ?_
      exact E_rI d_Mo_suspects_27 rfl hq
  · rw [if_pos c] at hq
    refine E_ic (v := (-1)) d_Mo_suspects_15 (by decide) ?_
    exact E_rI d_Mo_suspects_16 rfl hq
def f_Mo_isFirstRoad_2 : Nat → Nat → Int32 → Int32 → PH → Option (Int32 × PH)
  | 0, _, _, _, _ => none
  | n + 1, a0, x1, x2, h =>
    if x1 ≤ x2 then
      rtZ 1 h
    else
      (ldR h 9 a0 41).bind fun v1 =>
      (rdA h v1 (4 * x2)).bind fun v2 =>
      (ldR h 9 a0 41).bind fun v3 =>
      (rdA h v3 (4 * x1)).bind fun v4 =>
      if v2 = v4 then
        (ldR h 9 a0 41).bind fun v5 =>
        (rdA h v5 ((4 * x2) + 1)).bind fun v6 =>
        (ldR h 9 a0 41).bind fun v7 =>
        (rdA h v7 ((4 * x1) + 1)).bind fun v8 =>
        if v6 = v8 then
          rtZ 0 h
        else
          f_Mo_isFirstRoad_2 n a0 x1 (x2 + 1) h
      else
        f_Mo_isFirstRoad_2 n a0 x1 (x2 + 1) h
theorem t_Mo_isFirstRoad_2 {d : Nat} (hd : 0 ≤ d) : ∀ (n : Nat) (a0 : Nat) (x1 : Int32) (x2 : Int32) (h : PH) (r : Int32 × PH), f_Mo_isFirstRoad_2 n a0 x1 x2 h = some r → E d 0 0 m_Mo_isFirstRoad 2 [(0, .ref a0), (1, .int x1), (2, .int x2)] [] h (PI r) := by
  intro n
  induction n with
  | zero => intro a0 x1 x2 h r hq; rw [f_Mo_isFirstRoad_2] at hq; cases hq
  | succ n ih =>
    intro a0 x1 x2 h r hq
    rw [f_Mo_isFirstRoad_2] at hq
    refine E_iln 2 d_Mo_isFirstRoad_2 rfl rfl ?_
    refine E_iln 1 d_Mo_isFirstRoad_3 rfl rfl ?_
    refine E_jge (tgt := 57) d_Mo_isFirstRoad_4 (by decide) (fun c => ?_) (fun c => ?_)
    · rw [if_pos c] at hq
      refine E_ic (v := 1) d_Mo_isFirstRoad_57 (by decide) ?_
      exact E_rZ d_Mo_isFirstRoad_58 rfl hq
    · rw [if_neg c] at hq
      refine E_aln 0 d_Mo_isFirstRoad_7 rfl rfl ?_
      obtain ⟨v1, ev1, hq⟩ := bd hq
      refine E_gR d_Mo_isFirstRoad_8 lk_Mo_74 rfl ev1 ?_
      refine E_ic (v := 4) d_Mo_isFirstRoad_11 (by decide) ?_
      refine E_iln 2 d_Mo_isFirstRoad_12 rfl rfl ?_
      refine E_imul d_Mo_isFirstRoad_13 ?_
      obtain ⟨v2, ev2, hq⟩ := bd hq
      refine E_ra d_Mo_isFirstRoad_14 ev2 ?_
      refine E_aln 0 d_Mo_isFirstRoad_15 rfl rfl ?_
      obtain ⟨v3, ev3, hq⟩ := bd hq
      refine E_gR d_Mo_isFirstRoad_16 lk_Mo_74 rfl ev3 ?_
      refine E_ic (v := 4) d_Mo_isFirstRoad_19 (by decide) ?_
      refine E_iln 1 d_Mo_isFirstRoad_20 rfl rfl ?_
      refine E_imul d_Mo_isFirstRoad_21 ?_
      obtain ⟨v4, ev4, hq⟩ := bd hq
      refine E_ra d_Mo_isFirstRoad_22 ev4 ?_
      refine E_jne (tgt := 51) d_Mo_isFirstRoad_23 (by decide) (fun c => ?_) (fun c => ?_)
      · rw [if_neg c] at hq
        refine E_inc (v := 1) (ls' := [(2, .int (x2 + 1)), (0, .ref a0), (1, .int x1)]) 2 d_Mo_isFirstRoad_51 rfl (Nat.le_of_ble_eq_true rfl) (by decide) rfl ?_
        refine E_goto (tgt := 2) d_Mo_isFirstRoad_54 (by decide) ?_
        exact E_sub (ks := [1, 2, 0]) rfl <| ih _ _ _ _ _ hq
      · rw [if_pos c] at hq
        refine E_aln 0 d_Mo_isFirstRoad_26 rfl rfl ?_
        obtain ⟨v5, ev5, hq⟩ := bd hq
        refine E_gR d_Mo_isFirstRoad_27 lk_Mo_74 rfl ev5 ?_
        refine E_ic (v := 4) d_Mo_isFirstRoad_30 (by decide) ?_
        refine E_iln 2 d_Mo_isFirstRoad_31 rfl rfl ?_
        refine E_imul d_Mo_isFirstRoad_32 ?_
        refine E_ic (v := 1) d_Mo_isFirstRoad_33 (by decide) ?_
        refine E_iadd d_Mo_isFirstRoad_34 ?_
        obtain ⟨v6, ev6, hq⟩ := bd hq
        refine E_ra d_Mo_isFirstRoad_35 ev6 ?_
        refine E_aln 0 d_Mo_isFirstRoad_36 rfl rfl ?_
        obtain ⟨v7, ev7, hq⟩ := bd hq
        refine E_gR d_Mo_isFirstRoad_37 lk_Mo_74 rfl ev7 ?_
        refine E_ic (v := 4) d_Mo_isFirstRoad_40 (by decide) ?_
        refine E_iln 1 d_Mo_isFirstRoad_41 rfl rfl ?_
        refine E_imul d_Mo_isFirstRoad_42 ?_
        refine E_ic (v := 1) d_Mo_isFirstRoad_43 (by decide) ?_
        refine E_iadd d_Mo_isFirstRoad_44 ?_
        obtain ⟨v8, ev8, hq⟩ := bd hq
        refine E_ra d_Mo_isFirstRoad_45 ev8 ?_
        refine E_jne (tgt := 51) d_Mo_isFirstRoad_46 (by decide) (fun c => ?_) (fun c => ?_)
        · rw [if_neg c] at hq
          refine E_inc (v := 1) (ls' := [(2, .int (x2 + 1)), (0, .ref a0), (1, .int x1)]) 2 d_Mo_isFirstRoad_51 rfl (Nat.le_of_ble_eq_true rfl) (by decide) rfl ?_
          refine E_goto (tgt := 2) d_Mo_isFirstRoad_54 (by decide) ?_
          exact E_sub (ks := [1, 2, 0]) rfl <| ih _ _ _ _ _ hq
        · rw [if_pos c] at hq
          refine E_ic (v := 0) d_Mo_isFirstRoad_49 (by decide) ?_
          exact E_rZ d_Mo_isFirstRoad_50 rfl hq
def f_Mo_isFirstRoad (a0 : Nat) (x1 : Int32) (h : PH) : Option (Int32 × PH) :=
  f_Mo_isFirstRoad_2 FU a0 x1 0 h
theorem t_Mo_isFirstRoad {d : Nat} (hd : 0 ≤ d) {a0 : Nat} {x1 : Int32} {h : PH} {r : Int32 × PH} (hq : f_Mo_isFirstRoad a0 x1 h = some r) : E d 0 0 m_Mo_isFirstRoad 0 [(0, .ref a0), (1, .int x1)] [] h (PI r) := by
  unfold f_Mo_isFirstRoad at hq
  refine E_ic (v := 0) d_Mo_isFirstRoad_0 (by decide) ?_
  refine E_isn (ls' := [(2, .int 0), (0, .ref a0), (1, .int x1)]) d_Mo_isFirstRoad_1 (Nat.le_of_ble_eq_true rfl) rfl ?_
  exact E_sub (ks := [1, 2, 0]) rfl <| t_Mo_isFirstRoad_2 (by omega) _ _ _ _ _ _ hq
def f_Mo_goesRoad (a0 : Nat) (x1 : Int32) (h : PH) : Option (PH) :=
  (ldR h 9 a0 60).bind fun v1 =>
  (ldR h 9 a0 41).bind fun v2 =>
  (rdA h v2 x1).bind fun v3 =>
  (rdA h v1 v3).bind fun v4 =>
  if v4 = 100000000 then
    some h
  else
    (ldR h 9 a0 41).bind fun v5 =>
    (rdA h v5 (x1 + 2)).bind fun v6 =>
    (isO h 9 a0).bind fun _ =>
    (f_Mo_greater a0 0 (v4 - v6) h).bind fun p7 =>
    (ldR p7.2 9 a0 41).bind fun v9 =>
    (rdA p7.2 v9 (x1 + 3)).bind fun v10 =>
    (isO p7.2 9 a0).bind fun _ =>
    (f_Mo_lesser a0 99 (p7.1 + v10) p7.2).bind fun p11 =>
    (ldR p11.2 9 a0 61).bind fun v13 =>
    (ldR p11.2 9 a0 41).bind fun v14 =>
    (rdA p11.2 v14 (x1 + 1)).bind fun v15 =>
    (ldR p11.2 9 a0 61).bind fun v16 =>
    (ldR p11.2 9 a0 41).bind fun v17 =>
    (rdA p11.2 v17 (x1 + 1)).bind fun v18 =>
    (rdA p11.2 v16 v18).bind fun v19 =>
    (isO p11.2 9 a0).bind fun _ =>
    (f_Mo_lesser a0 v19 p11.1 p11.2).bind fun p20 =>
    (wrA p20.2 v13 v15 p20.1).bind fun h22 =>
    some h22
theorem t_Mo_goesRoad {d : Nat} (hd : 1 ≤ d) {a0 : Nat} {x1 : Int32} {h : PH} {r : PH} (hq : f_Mo_goesRoad a0 x1 h = some r) : E d 0 0 m_Mo_goesRoad 0 [(0, .ref a0), (1, .int x1)] [] h (PV r) := by
  unfold f_Mo_goesRoad at hq
  obtain ⟨d, rfl⟩ : ∃ e, d = e + 1 := ⟨d - 1, by omega⟩
  refine E_aln 0 d_Mo_goesRoad_0 rfl rfl ?_
  obtain ⟨v1, ev1, hq⟩ := bd hq
  refine E_gR d_Mo_goesRoad_1 lk_Mo_116 rfl ev1 ?_
  refine E_aln 0 d_Mo_goesRoad_4 rfl rfl ?_
  obtain ⟨v2, ev2, hq⟩ := bd hq
  refine E_gR d_Mo_goesRoad_5 lk_Mo_74 rfl ev2 ?_
  refine E_iln 1 d_Mo_goesRoad_8 rfl rfl ?_
  obtain ⟨v3, ev3, hq⟩ := bd hq
  refine E_ra d_Mo_goesRoad_9 ev3 ?_
  obtain ⟨v4, ev4, hq⟩ := bd hq
  refine E_ra d_Mo_goesRoad_10 ev4 ?_
  refine E_isn (ls' := [(2, .int v4), (0, .ref a0), (1, .int x1)]) d_Mo_goesRoad_11 (Nat.le_of_ble_eq_true rfl) rfl ?_
  refine E_iln 0 d_Mo_goesRoad_12 rfl rfl ?_
  refine E_ldcw d_Mo_goesRoad_13 kc_Mo_430 ?_
  refine E_jne (tgt := 20) d_Mo_goesRoad_16 (by decide) (fun c => ?_) (fun c => ?_)
  · rw [if_neg c] at hq
    refine E_aln 1 d_Mo_goesRoad_20 rfl rfl ?_
    refine E_bi (v := 99) d_Mo_goesRoad_21 (by decide) ?_
    refine E_aln 1 d_Mo_goesRoad_23 rfl rfl ?_
    refine E_ic (v := 0) d_Mo_goesRoad_24 (by decide) ?_
    refine E_iln 0 d_Mo_goesRoad_25 rfl rfl ?_
    refine E_aln 1 d_Mo_goesRoad_26 rfl rfl ?_
    obtain ⟨v5, ev5, hq⟩ := bd hq
    refine E_gR d_Mo_goesRoad_27 lk_Mo_74 rfl ev5 ?_
    refine E_iln 2 d_Mo_goesRoad_30 rfl rfl ?_
    refine E_ic (v := 2) d_Mo_goesRoad_31 (by decide) ?_
    refine E_iadd d_Mo_goesRoad_32 ?_
    obtain ⟨v6, ev6, hq⟩ := bd hq
    refine E_ra d_Mo_goesRoad_33 ev6 ?_
    refine E_isub d_Mo_goesRoad_34 ?_
    obtain ⟨q8, eq8, hq⟩ := bd hq
    obtain ⟨p7, ep7, hq⟩ := bd hq
    refine E_cV2I d_Mo_goesRoad_35 ck_Mo_339 rfl rfl eq8 (Nat.le_of_ble_eq_true rfl) (Nat.le_of_ble_eq_true rfl) (t_Mo_greater (by omega) ep7) ?_
    refine E_aln 1 d_Mo_goesRoad_38 rfl rfl ?_
    obtain ⟨v9, ev9, hq⟩ := bd hq
    refine E_gR d_Mo_goesRoad_39 lk_Mo_74 rfl ev9 ?_
    refine E_iln 2 d_Mo_goesRoad_42 rfl rfl ?_
    refine E_ic (v := 3) d_Mo_goesRoad_43 (by decide) ?_
    refine E_iadd d_Mo_goesRoad_44 ?_
    obtain ⟨v10, ev10, hq⟩ := bd hq
    refine E_ra d_Mo_goesRoad_45 ev10 ?_
    refine E_iadd d_Mo_goesRoad_46 ?_
    obtain ⟨q12, eq12, hq⟩ := bd hq
    obtain ⟨p11, ep11, hq⟩ := bd hq
    refine E_cV2I d_Mo_goesRoad_47 ck_Mo_369 rfl rfl eq12 (Nat.le_of_ble_eq_true rfl) (Nat.le_of_ble_eq_true rfl) (t_Mo_lesser (by omega) ep11) ?_
    refine E_isn (ls' := [(2, .int p11.1), (0, .ref a0), (1, .int x1)]) d_Mo_goesRoad_50 (Nat.le_of_ble_eq_true rfl) rfl ?_
    refine E_aln 1 d_Mo_goesRoad_51 rfl rfl ?_
    obtain ⟨v13, ev13, hq⟩ := bd hq
    refine E_gR d_Mo_goesRoad_52 lk_Mo_119 rfl ev13 ?_
    refine E_aln 1 d_Mo_goesRoad_55 rfl rfl ?_
    obtain ⟨v14, ev14, hq⟩ := bd hq
    refine E_gR d_Mo_goesRoad_56 lk_Mo_74 rfl ev14 ?_
    refine E_iln 2 d_Mo_goesRoad_59 rfl rfl ?_
    refine E_ic (v := 1) d_Mo_goesRoad_60 (by decide) ?_
    refine E_iadd d_Mo_goesRoad_61 ?_
    obtain ⟨v15, ev15, hq⟩ := bd hq
    refine E_ra d_Mo_goesRoad_62 ev15 ?_
    refine E_aln 1 d_Mo_goesRoad_63 rfl rfl ?_
    refine E_aln 1 d_Mo_goesRoad_64 rfl rfl ?_
    obtain ⟨v16, ev16, hq⟩ := bd hq
    refine E_gR d_Mo_goesRoad_65 lk_Mo_119 rfl ev16 ?_
    refine E_aln 1 d_Mo_goesRoad_68 rfl rfl ?_
    obtain ⟨v17, ev17, hq⟩ := bd hq
    refine E_gR d_Mo_goesRoad_69 lk_Mo_74 rfl ev17 ?_
    refine E_iln 2 d_Mo_goesRoad_72 rfl rfl ?_
    refine E_ic (v := 1) d_Mo_goesRoad_73 (by decide) ?_
    refine E_iadd d_Mo_goesRoad_74 ?_
    obtain ⟨v18, ev18, hq⟩ := bd hq
    refine E_ra d_Mo_goesRoad_75 ev18 ?_
    obtain ⟨v19, ev19, hq⟩ := bd hq
    refine E_ra d_Mo_goesRoad_76 ev19 ?_
    refine E_iln 0 d_Mo_goesRoad_77 rfl rfl ?_
    obtain ⟨q21, eq21, hq⟩ := bd hq
    obtain ⟨p20, ep20, hq⟩ := bd hq
    refine E_cV2I d_Mo_goesRoad_78 ck_Mo_369 rfl rfl eq21 (Nat.le_of_ble_eq_true rfl) (Nat.le_of_ble_eq_true rfl) (t_Mo_lesser (by omega) ep20) ?_
    obtain ⟨h22, eh22, hq⟩ := bd hq
    refine E_wa d_Mo_goesRoad_81 eh22 ?_
    exact E_rV d_Mo_goesRoad_82 rfl hq
  · rw [if_pos c] at hq
    exact E_rV d_Mo_goesRoad_19 rfl hq
def f_Mo_goesAllRoads_56 : Nat → Nat → Int32 → PH → Option (PH)
  | 0, _, _, _ => none
  | n + 1, a0, x1, h =>
    if 10 ≤ x1 then
      some h
    else
      (ldR h 9 a0 60).bind fun v1 =>
      (ldR h 9 a0 61).bind fun v2 =>
      (rdA h v2 x1).bind fun v3 =>
      (wrA h v1 x1 v3).bind fun h4 =>
      f_Mo_goesAllRoads_56 n a0 (x1 + 1) h4
theorem t_Mo_goesAllRoads_56 {d : Nat} (hd : 2 ≤ d) : ∀ (n : Nat) (a0 : Nat) (x1 : Int32) (h : PH) (r : PH), f_Mo_goesAllRoads_56 n a0 x1 h = some r → E d 0 0 m_Mo_goesAllRoads 56 [(0, .ref a0), (1, .int x1)] [] h (PV r) := by
  intro n
  induction n with
  | zero => intro a0 x1 h r hq; rw [f_Mo_goesAllRoads_56] at hq; cases hq
  | succ n ih =>
    intro a0 x1 h r hq
    rw [f_Mo_goesAllRoads_56] at hq
    obtain ⟨d, rfl⟩ : ∃ e, d = e + 1 := ⟨d - 1, by omega⟩
    refine E_iln 1 d_Mo_goesAllRoads_56 rfl rfl ?_
    refine E_bi (v := 10) d_Mo_goesAllRoads_57 (by decide) ?_
    refine E_jge (tgt := 80) d_Mo_goesAllRoads_59 (by decide) (fun c => ?_) (fun c => ?_)
    · rw [if_pos c] at hq
      exact E_rV d_Mo_goesAllRoads_80 rfl hq
    · rw [if_neg c] at hq
      refine E_aln 0 d_Mo_goesAllRoads_62 rfl rfl ?_
      obtain ⟨v1, ev1, hq⟩ := bd hq
      refine E_gR d_Mo_goesAllRoads_63 lk_Mo_116 rfl ev1 ?_
      refine E_iln 1 d_Mo_goesAllRoads_66 rfl rfl ?_
      refine E_aln 0 d_Mo_goesAllRoads_67 rfl rfl ?_
      obtain ⟨v2, ev2, hq⟩ := bd hq
      refine E_gR d_Mo_goesAllRoads_68 lk_Mo_119 rfl ev2 ?_
      refine E_iln 1 d_Mo_goesAllRoads_71 rfl rfl ?_
      obtain ⟨v3, ev3, hq⟩ := bd hq
      refine E_ra d_Mo_goesAllRoads_72 ev3 ?_
      obtain ⟨h4, eh4, hq⟩ := bd hq
      refine E_wa d_Mo_goesAllRoads_73 eh4 ?_
      refine E_inc (v := 1) (ls' := [(1, .int (x1 + 1)), (0, .ref a0)]) 1 d_Mo_goesAllRoads_74 rfl (Nat.le_of_ble_eq_true rfl) (by decide) rfl ?_
      refine E_goto (tgt := 56) d_Mo_goesAllRoads_77 (by decide) ?_
      exact E_sub (ks := [1, 0]) rfl <| ih _ _ _ _ hq
def f_Mo_goesAllRoads_25 : Nat → Nat → Int32 → PH → Option (PH)
  | 0, _, _, _ => none
  | n + 1, a0, x1, h =>
    (ldI h 9 a0 40).bind fun v1 =>
    if v1 ≤ x1 then
      f_Mo_goesAllRoads_56 FU a0 0 h
    else
      (isO h 9 a0).bind fun _ =>
      (f_Mo_isFirstRoad a0 x1 h).bind fun p2 =>
      if p2.1 = 0 then
        f_Mo_goesAllRoads_25 n a0 (x1 + 1) p2.2
      else
        (isO p2.2 9 a0).bind fun _ =>
        (f_Mo_goesRoad a0 (4 * x1) p2.2).bind fun h4 =>
        f_Mo_goesAllRoads_25 n a0 (x1 + 1) h4
theorem t_Mo_goesAllRoads_25 {d : Nat} (hd : 2 ≤ d) : ∀ (n : Nat) (a0 : Nat) (x1 : Int32) (h : PH) (r : PH), f_Mo_goesAllRoads_25 n a0 x1 h = some r → E d 0 0 m_Mo_goesAllRoads 25 [(0, .ref a0), (1, .int x1)] [] h (PV r) := by
  intro n
  induction n with
  | zero => intro a0 x1 h r hq; rw [f_Mo_goesAllRoads_25] at hq; cases hq
  | succ n ih =>
    intro a0 x1 h r hq
    rw [f_Mo_goesAllRoads_25] at hq
    obtain ⟨d, rfl⟩ : ∃ e, d = e + 1 := ⟨d - 1, by omega⟩
    refine E_iln 1 d_Mo_goesAllRoads_25 rfl rfl ?_
    refine E_aln 0 d_Mo_goesAllRoads_26 rfl rfl ?_
    obtain ⟨v1, ev1, hq⟩ := bd hq
    refine E_gI d_Mo_goesAllRoads_27 lk_Mo_318 rfl ev1 ?_
    refine E_jge (tgt := 54) d_Mo_goesAllRoads_30 (by decide) (fun c => ?_) (fun c => ?_)
    · rw [if_pos c] at hq
      refine E_ic (v := 0) d_Mo_goesAllRoads_54 (by decide) ?_
      refine E_isn (ls' := [(1, .int 0), (0, .ref a0)]) d_Mo_goesAllRoads_55 (Nat.le_of_ble_eq_true rfl) rfl ?_
      exact E_sub (ks := [1, 0]) rfl <| t_Mo_goesAllRoads_56 (by omega) _ _ _ _ _ hq
    · rw [if_neg c] at hq
      refine E_aln 0 d_Mo_goesAllRoads_33 rfl rfl ?_
      refine E_iln 1 d_Mo_goesAllRoads_34 rfl rfl ?_
      obtain ⟨q3, eq3, hq⟩ := bd hq
      obtain ⟨p2, ep2, hq⟩ := bd hq
      refine E_cV1I d_Mo_goesAllRoads_35 ck_Mo_452 rfl rfl eq3 (Nat.le_of_ble_eq_true rfl) (Nat.le_of_ble_eq_true rfl) (t_Mo_isFirstRoad (by omega) ep2) ?_
      refine E_zeq (tgt := 48) d_Mo_goesAllRoads_38 (by decide) (fun c => ?_) (fun c => ?_)
      · rw [if_pos c] at hq
        refine E_inc (v := 1) (ls' := [(1, .int (x1 + 1)), (0, .ref a0)]) 1 d_Mo_goesAllRoads_48 rfl (Nat.le_of_ble_eq_true rfl) (by decide) rfl ?_
        refine E_goto (tgt := 25) d_Mo_goesAllRoads_51 (by decide) ?_
        exact E_sub (ks := [1, 0]) rfl <| ih _ _ _ _ hq
      · rw [if_neg c] at hq
        refine E_aln 0 d_Mo_goesAllRoads_41 rfl rfl ?_
        refine E_ic (v := 4) d_Mo_goesAllRoads_42 (by decide) ?_
        refine E_iln 1 d_Mo_goesAllRoads_43 rfl rfl ?_
        refine E_imul d_Mo_goesAllRoads_44 ?_
        obtain ⟨q5, eq5, hq⟩ := bd hq
        obtain ⟨h4, eh4, hq⟩ := bd hq
        refine E_cV1V d_Mo_goesAllRoads_45 ck_Mo_455 rfl rfl eq5 (Nat.le_of_ble_eq_true rfl) (Nat.le_of_ble_eq_true rfl) (t_Mo_goesRoad (by omega) eh4) ?_
        refine E_inc (v := 1) (ls' := [(1, .int (x1 + 1)), (0, .ref a0)]) 1 d_Mo_goesAllRoads_48 rfl (Nat.le_of_ble_eq_true rfl) (by decide) rfl ?_
        refine E_goto (tgt := 25) d_Mo_goesAllRoads_51 (by decide) ?_
        exact E_sub (ks := [1, 0]) rfl <| ih _ _ _ _ hq
def f_Mo_goesAllRoads_2 : Nat → Nat → Int32 → PH → Option (PH)
  | 0, _, _, _ => none
  | n + 1, a0, x1, h =>
    if 10 ≤ x1 then
      f_Mo_goesAllRoads_25 FU a0 0 h
    else
      (ldR h 9 a0 61).bind fun v1 =>
      (wrA h v1 x1 100000000).bind fun h2 =>
      f_Mo_goesAllRoads_2 n a0 (x1 + 1) h2
theorem t_Mo_goesAllRoads_2 {d : Nat} (hd : 2 ≤ d) : ∀ (n : Nat) (a0 : Nat) (x1 : Int32) (h : PH) (r : PH), f_Mo_goesAllRoads_2 n a0 x1 h = some r → E d 0 0 m_Mo_goesAllRoads 2 [(0, .ref a0), (1, .int x1)] [] h (PV r) := by
  intro n
  induction n with
  | zero => intro a0 x1 h r hq; rw [f_Mo_goesAllRoads_2] at hq; cases hq
  | succ n ih =>
    intro a0 x1 h r hq
    rw [f_Mo_goesAllRoads_2] at hq
    obtain ⟨d, rfl⟩ : ∃ e, d = e + 1 := ⟨d - 1, by omega⟩
    refine E_iln 1 d_Mo_goesAllRoads_2 rfl rfl ?_
    refine E_bi (v := 10) d_Mo_goesAllRoads_3 (by decide) ?_
    refine E_jge (tgt := 23) d_Mo_goesAllRoads_5 (by decide) (fun c => ?_) (fun c => ?_)
    · rw [if_pos c] at hq
      refine E_ic (v := 0) d_Mo_goesAllRoads_23 (by decide) ?_
      refine E_isn (ls' := [(1, .int 0), (0, .ref a0)]) d_Mo_goesAllRoads_24 (Nat.le_of_ble_eq_true rfl) rfl ?_
      exact E_sub (ks := [1, 0]) rfl <| t_Mo_goesAllRoads_25 (by omega) _ _ _ _ _ hq
    · rw [if_neg c] at hq
      refine E_aln 0 d_Mo_goesAllRoads_8 rfl rfl ?_
      obtain ⟨v1, ev1, hq⟩ := bd hq
      refine E_gR d_Mo_goesAllRoads_9 lk_Mo_119 rfl ev1 ?_
      refine E_iln 1 d_Mo_goesAllRoads_12 rfl rfl ?_
      refine E_ldcw d_Mo_goesAllRoads_13 kc_Mo_430 ?_
      obtain ⟨h2, eh2, hq⟩ := bd hq
      refine E_wa d_Mo_goesAllRoads_16 eh2 ?_
      refine E_inc (v := 1) (ls' := [(1, .int (x1 + 1)), (0, .ref a0)]) 1 d_Mo_goesAllRoads_17 rfl (Nat.le_of_ble_eq_true rfl) (by decide) rfl ?_
      refine E_goto (tgt := 2) d_Mo_goesAllRoads_20 (by decide) ?_
      exact E_sub (ks := [1, 0]) rfl <| ih _ _ _ _ hq
def f_Mo_goesAllRoads (a0 : Nat) (h : PH) : Option (PH) :=
  f_Mo_goesAllRoads_2 FU a0 0 h
theorem t_Mo_goesAllRoads {d : Nat} (hd : 2 ≤ d) {a0 : Nat} {h : PH} {r : PH} (hq : f_Mo_goesAllRoads a0 h = some r) : E d 0 0 m_Mo_goesAllRoads 0 [(0, .ref a0)] [] h (PV r) := by
  unfold f_Mo_goesAllRoads at hq
  obtain ⟨d, rfl⟩ : ∃ e, d = e + 1 := ⟨d - 1, by omega⟩
  refine E_ic (v := 0) d_Mo_goesAllRoads_0 (by decide) ?_
  refine E_isn (ls' := [(1, .int 0), (0, .ref a0)]) d_Mo_goesAllRoads_1 (Nat.le_of_ble_eq_true rfl) rfl ?_
  exact E_sub (ks := [1, 0]) rfl <| t_Mo_goesAllRoads_2 (by omega) _ _ _ _ _ hq
def f_Mo_driest_163 (x6 : Int32) (h : PH) : Option (Int32 × PH) :=
  some (x6, h)
theorem t_Mo_driest_163 {d : Nat} (hd : 3 ≤ d) {x6 : Int32} {h : PH} {r : Int32 × PH} (hq : f_Mo_driest_163 x6 h = some r) : E d 0 0 m_Mo_driest 163 [(6, .int x6)] [] h (PI r) := by
  unfold f_Mo_driest_163 at hq
  obtain ⟨d, rfl⟩ : ∃ e, d = e + 1 := ⟨d - 1, by omega⟩
  refine E_il 0 d_Mo_driest_163 rfl ?_
  refine E_goto (tgt := 170) d_Mo_driest_165 (by decide) ?_
  exact E_rI d_Mo_driest_170 rfl hq
def f_Mo_driest_123 (k98 : Nat → Int32 → Int32 → Int32 → Int32 → Int32 → PH → Option (Int32 × PH)) (a0 : Nat) (x2 : Int32) (x4 : Int32) (x5 : Int32) (x7 : Int32) (s0 : Int32) (h : PH) : Option (Int32 × PH) :=
  (ldR h 9 a0 60).bind fun v1 =>
  (rdA h v1 x2).bind fun v2 =>
  (isO h 9 a0).bind fun _ =>
  (f_Mo_lesser a0 x5 v2 h).bind fun p3 =>
  (isO p3.2 9 a0).bind fun _ =>
  (f_Mo_goesAllRoads a0  p3.2).bind fun h5 =>
  k98 a0 x2 x4 p3.1 s0 (x7 + 1) h5
theorem t_Mo_driest_123 {d : Nat} (hd : 3 ≤ d) {k98 : Nat → Int32 → Int32 → Int32 → Int32 → Int32 → PH → Option (Int32 × PH)} (hk98 : ∀ (a0 : Nat) (x2 : Int32) (x4 : Int32) (x5 : Int32) (x6 : Int32) (x7 : Int32) (h : PH) (r : Int32 × PH), k98 a0 x2 x4 x5 x6 x7 h = some r → E d 0 0 m_Mo_driest 98 [(0, .ref a0), (2, .int x2), (4, .int x4), (5, .int x5), (6, .int x6), (7, .int x7)] [] h (PI r)) {a0 : Nat} {x2 : Int32} {x4 : Int32} {x5 : Int32} {x7 : Int32} {s0 : Int32} {h : PH} {r : Int32 × PH} (hq : f_Mo_driest_123 k98 a0 x2 x4 x5 x7 s0 h = some r) : E d 0 0 m_Mo_driest 123 [(0, .ref a0), (2, .int x2), (4, .int x4), (5, .int x5), (7, .int x7)] [.int s0] h (PI r) := by
  unfold f_Mo_driest_123 at hq
  obtain ⟨d, rfl⟩ : ∃ e, d = e + 1 := ⟨d - 1, by omega⟩
  refine E_is (ls' := [(6, .int s0), (0, .ref a0), (2, .int x2), (4, .int x4), (5, .int x5), (7, .int x7)]) d_Mo_driest_123 (Nat.le_of_ble_eq_true rfl) rfl ?_
  refine E_aln 1 d_Mo_driest_125 rfl rfl ?_
  refine E_il 4 d_Mo_driest_126 rfl ?_
  refine E_aln 1 d_Mo_driest_128 rfl rfl ?_
  obtain ⟨v1, ev1, hq⟩ := bd hq
  refine E_gR d_Mo_driest_129 lk_Mo_116 rfl ev1 ?_
  refine E_iln 2 d_Mo_driest_132 rfl rfl ?_
  obtain ⟨v2, ev2, hq⟩ := bd hq
  refine E_ra d_Mo_driest_133 ev2 ?_
  obtain ⟨q4, eq4, hq⟩ := bd hq
  obtain ⟨p3, ep3, hq⟩ := bd hq
  refine E_cV2I d_Mo_driest_134 ck_Mo_369 rfl rfl eq4 (Nat.le_of_ble_eq_true rfl) (Nat.le_of_ble_eq_true rfl) (t_Mo_lesser (by omega) ep3) ?_
  refine E_is (ls' := [(5, .int p3.1), (6, .int s0), (0, .ref a0), (2, .int x2), (4, .int x4), (7, .int x7)]) d_Mo_driest_137 (Nat.le_of_ble_eq_true rfl) rfl ?_
  refine E_aln 2 d_Mo_driest_139 rfl rfl ?_
  obtain ⟨q6, eq6, hq⟩ := bd hq
  obtain ⟨h5, eh5, hq⟩ := bd hq
  refine E_cV0V d_Mo_driest_140 ck_Mo_458 rfl rfl eq6 (Nat.le_of_ble_eq_true rfl) (Nat.le_of_ble_eq_true rfl) (t_Mo_goesAllRoads (by omega) eh5) ?_
  refine E_inc (v := 1) (ls' := [(7, .int (x7 + 1)), (5, .int p3.1), (6, .int s0), (0, .ref a0), (2, .int x2), (4, .int x4)]) 5 d_Mo_driest_143 rfl (Nat.le_of_ble_eq_true rfl) (by decide) rfl ?_
  refine E_goto (tgt := 98) d_Mo_driest_146 (by decide) ?_
  exact E_sub (ks := [3, 4, 5, 1, 2, 0]) rfl <| hk98 _ _ _ _ _ _ _ _ hq
def f_Mo_driest_98 : Nat → Nat → Int32 → Int32 → Int32 → Int32 → Int32 → PH → Option (Int32 × PH)
  | 0, _, _, _, _, _, _, _ => none
  | n + 1, a0, x2, x4, x5, x6, x7, h =>
    if 12 < x7 then
      if x5 = 100000000 then
        f_Mo_driest_163 x6 h
      else
        if x4 = 1 then
          f_Mo_driest_163 x6 h
        else
          some (x5, h)
    else
      (ldR h 9 a0 60).bind fun v1 =>
      (rdA h v1 x2).bind fun v2 =>
      if x5 ≤ v2 then
        f_Mo_driest_123 (fun a0 x2 x4 x5 x6 x7 h => f_Mo_driest_98 n a0 x2 x4 x5 x6 x7 h) a0 x2 x4 x5 x7 x6 h
      else
        f_Mo_driest_123 (fun a0 x2 x4 x5 x6 x7 h => f_Mo_driest_98 n a0 x2 x4 x5 x6 x7 h) a0 x2 x4 x5 x7 x7 h
theorem t_Mo_driest_98 {d : Nat} (hd : 3 ≤ d) : ∀ (n : Nat) (a0 : Nat) (x2 : Int32) (x4 : Int32) (x5 : Int32) (x6 : Int32) (x7 : Int32) (h : PH) (r : Int32 × PH), f_Mo_driest_98 n a0 x2 x4 x5 x6 x7 h = some r → E d 0 0 m_Mo_driest 98 [(0, .ref a0), (2, .int x2), (4, .int x4), (5, .int x5), (6, .int x6), (7, .int x7)] [] h (PI r) := by
  intro n
  induction n with
  | zero => intro a0 x2 x4 x5 x6 x7 h r hq; rw [f_Mo_driest_98] at hq; cases hq
  | succ n ih =>
    intro a0 x2 x4 x5 x6 x7 h r hq
    rw [f_Mo_driest_98] at hq
    obtain ⟨d, rfl⟩ : ∃ e, d = e + 1 := ⟨d - 1, by omega⟩
    refine E_il 5 d_Mo_driest_98 rfl ?_
    refine E_bi (v := 12) d_Mo_driest_100 (by decide) ?_
    refine E_jgt (tgt := 149) d_Mo_driest_102 (by decide) (fun c => ?_) (fun c => ?_)
    · rw [if_pos c] at hq
      refine E_il 3 d_Mo_driest_149 rfl ?_
      refine E_ldcw d_Mo_driest_151 kc_Mo_430 ?_
      refine E_jeq (tgt := 163) d_Mo_driest_154 (by decide) (fun c => ?_) (fun c => ?_)
      · rw [if_pos c] at hq
        exact E_sub (ks := [4]) rfl <| t_Mo_driest_163 (by omega) hq
      · rw [if_neg c] at hq
        refine E_il 2 d_Mo_driest_157 rfl ?_
        refine E_ic (v := 1) d_Mo_driest_159 (by decide) ?_
        refine E_jne (tgt := 168) d_Mo_driest_160 (by decide) (fun c => ?_) (fun c => ?_)
        · rw [if_neg c] at hq
          refine E_il 3 d_Mo_driest_168 rfl ?_
          exact E_rI d_Mo_driest_170 rfl hq
        · rw [if_pos c] at hq
          exact E_sub (ks := [4]) rfl <| t_Mo_driest_163 (by omega) hq
    · rw [if_neg c] at hq
      refine E_aln 0 d_Mo_driest_105 rfl rfl ?_
      obtain ⟨v1, ev1, hq⟩ := bd hq
      refine E_gR d_Mo_driest_106 lk_Mo_116 rfl ev1 ?_
      refine E_iln 1 d_Mo_driest_109 rfl rfl ?_
      obtain ⟨v2, ev2, hq⟩ := bd hq
      refine E_ra d_Mo_driest_110 ev2 ?_
      refine E_il 3 d_Mo_driest_111 rfl ?_
      refine E_jge (tgt := 121) d_Mo_driest_113 (by decide) (fun c => ?_) (fun c => ?_)
      · rw [if_pos c] at hq
        refine E_il 4 d_Mo_driest_121 rfl ?_
        exact E_sub (ks := [0, 1, 2, 3, 5]) rfl <| t_Mo_driest_123 (by omega) ih hq
      · rw [if_neg c] at hq
        refine E_il 5 d_Mo_driest_116 rfl ?_
        refine E_goto (tgt := 123) d_Mo_driest_118 (by decide) ?_
        exact E_sub (ks := [0, 1, 2, 3, 5]) rfl <| t_Mo_driest_123 (by omega) ih hq
def f_Mo_driest_80 (k54 : Nat → Int32 → Int32 → Int32 → Int32 → Int32 → PH → Option (Int32 × PH)) (a0 : Nat) (x1 : Int32) (x2 : Int32) (x3 : Int32) (x4 : Int32) (x5 : Int32) (s0 : Int32) (s1 : Int32) (s2 : Nat) (h : PH) : Option (Int32 × PH) :=
  (wrA h s2 s1 s0).bind fun h1 =>
  k54 a0 x1 x2 x3 x4 (x5 + 1) h1
theorem t_Mo_driest_80 {d : Nat} (hd : 3 ≤ d) {k54 : Nat → Int32 → Int32 → Int32 → Int32 → Int32 → PH → Option (Int32 × PH)} (hk54 : ∀ (a0 : Nat) (x1 : Int32) (x2 : Int32) (x3 : Int32) (x4 : Int32) (x5 : Int32) (h : PH) (r : Int32 × PH), k54 a0 x1 x2 x3 x4 x5 h = some r → E d 0 0 m_Mo_driest 54 [(0, .ref a0), (1, .int x1), (2, .int x2), (3, .int x3), (4, .int x4), (5, .int x5)] [] h (PI r)) {a0 : Nat} {x1 : Int32} {x2 : Int32} {x3 : Int32} {x4 : Int32} {x5 : Int32} {s0 : Int32} {s1 : Int32} {s2 : Nat} {h : PH} {r : Int32 × PH} (hq : f_Mo_driest_80 k54 a0 x1 x2 x3 x4 x5 s0 s1 s2 h = some r) : E d 0 0 m_Mo_driest 80 [(0, .ref a0), (1, .int x1), (2, .int x2), (3, .int x3), (4, .int x4), (5, .int x5)] [.int s0, .int s1, .ref s2] h (PI r) := by
  unfold f_Mo_driest_80 at hq
  obtain ⟨d, rfl⟩ : ∃ e, d = e + 1 := ⟨d - 1, by omega⟩
  obtain ⟨h1, eh1, hq⟩ := bd hq
  refine E_wa d_Mo_driest_80 eh1 ?_
  refine E_inc (v := 1) (ls' := [(5, .int (x5 + 1)), (0, .ref a0), (1, .int x1), (2, .int x2), (3, .int x3), (4, .int x4)]) 5 d_Mo_driest_81 rfl (Nat.le_of_ble_eq_true rfl) (by decide) rfl ?_
  refine E_goto (tgt := 54) d_Mo_driest_84 (by decide) ?_
  exact E_sub (ks := [1, 2, 3, 4, 5, 0]) rfl <| hk54 _ _ _ _ _ _ _ _ hq
def f_Mo_driest_54 : Nat → Nat → Int32 → Int32 → Int32 → Int32 → Int32 → PH → Option (Int32 × PH)
  | 0, _, _, _, _, _, _, _ => none
  | n + 1, a0, x1, x2, x3, x4, x5, h =>
    if 10 ≤ x5 then
      f_Mo_driest_98 FU a0 x2 x4 100000000 (-1) 0 h
    else
      (ldR h 9 a0 60).bind fun v1 =>
      if x5 = x1 then
        f_Mo_driest_80 (fun a0 x1 x2 x3 x4 x5 h => f_Mo_driest_54 n a0 x1 x2 x3 x4 x5 h) a0 x1 x2 x3 x4 x5 x3 x5 v1 h
      else
        f_Mo_driest_80 (fun a0 x1 x2 x3 x4 x5 h => f_Mo_driest_54 n a0 x1 x2 x3 x4 x5 h) a0 x1 x2 x3 x4 x5 100000000 x5 v1 h
theorem t_Mo_driest_54 {d : Nat} (hd : 3 ≤ d) : ∀ (n : Nat) (a0 : Nat) (x1 : Int32) (x2 : Int32) (x3 : Int32) (x4 : Int32) (x5 : Int32) (h : PH) (r : Int32 × PH), f_Mo_driest_54 n a0 x1 x2 x3 x4 x5 h = some r → E d 0 0 m_Mo_driest 54 [(0, .ref a0), (1, .int x1), (2, .int x2), (3, .int x3), (4, .int x4), (5, .int x5)] [] h (PI r) := by
  intro n
  induction n with
  | zero => intro a0 x1 x2 x3 x4 x5 h r hq; rw [f_Mo_driest_54] at hq; cases hq
  | succ n ih =>
    intro a0 x1 x2 x3 x4 x5 h r hq
    rw [f_Mo_driest_54] at hq
    obtain ⟨d, rfl⟩ : ∃ e, d = e + 1 := ⟨d - 1, by omega⟩
    refine E_il 5 d_Mo_driest_54 rfl ?_
    refine E_bi (v := 10) d_Mo_driest_56 (by decide) ?_
    refine E_jge (tgt := 87) d_Mo_driest_58 (by decide) (fun c => ?_) (fun c => ?_)
    · rw [if_pos c] at hq
      refine E_ldcw d_Mo_driest_87 kc_Mo_430 ?_
      refine E_is (ls' := [(5, .int 100000000), (0, .ref a0), (1, .int x1), (2, .int x2), (3, .int x3), (4, .int x4)]) d_Mo_driest_90 (Nat.le_of_ble_eq_true rfl) rfl ?_
      refine E_ic (v := (-1)) d_Mo_driest_92 (by decide) ?_
      refine E_is (ls' := [(6, .int (-1)), (5, .int 100000000), (0, .ref a0), (1, .int x1), (2, .int x2), (3, .int x3), (4, .int x4)]) d_Mo_driest_93 (Nat.le_of_ble_eq_true rfl) rfl ?_
      refine E_ic (v := 0) d_Mo_driest_95 (by decide) ?_
      refine E_is (ls' := [(7, .int 0), (6, .int (-1)), (5, .int 100000000), (0, .ref a0), (1, .int x1), (2, .int x2), (3, .int x3), (4, .int x4)]) d_Mo_driest_96 (Nat.le_of_ble_eq_true rfl) rfl ?_
      exact E_sub (ks := [3, 5, 7, 2, 1, 0]) rfl <| t_Mo_driest_98 (by omega) _ _ _ _ _ _ _ _ _ hq
    · rw [if_neg c] at hq
      refine E_aln 0 d_Mo_driest_61 rfl rfl ?_
      obtain ⟨v1, ev1, hq⟩ := bd hq
      refine E_gR d_Mo_driest_62 lk_Mo_116 rfl ev1 ?_
      refine E_il 5 d_Mo_driest_65 rfl ?_
      refine E_il 5 d_Mo_driest_67 rfl ?_
      refine E_iln 1 d_Mo_driest_69 rfl rfl ?_
      refine E_jne (tgt := 77) d_Mo_driest_70 (by decide) (fun c => ?_) (fun c => ?_)
      · rw [if_neg c] at hq
        refine E_ldcw d_Mo_driest_77 kc_Mo_430 ?_
        exact t_Mo_driest_80 (by omega) ih hq
      · rw [if_pos c] at hq
        refine E_iln 3 d_Mo_driest_73 rfl rfl ?_
        refine E_goto (tgt := 80) d_Mo_driest_74 (by decide) ?_
        exact t_Mo_driest_80 (by omega) ih hq
def f_Mo_driest (a0 : Nat) (x1 : Int32) (x2 : Int32) (x3 : Int32) (x4 : Int32) (h : PH) : Option (Int32 × PH) :=
  (stI h 9 a0 0 0).bind fun h1 =>
  (isO h1 9 a0).bind fun _ =>
  (f_Mo_isIn a0 x1 0 9 h1).bind fun p2 =>
  if p2.1 = 0 then
    some ((-1), p2.2)
  else
    (isO p2.2 9 a0).bind fun _ =>
    (f_Mo_isIn a0 x2 0 9 p2.2).bind fun p4 =>
    if p4.1 = 0 then
      some ((-1), p4.2)
    else
      (isO p4.2 9 a0).bind fun _ =>
      (f_Mo_isIn a0 x3 0 99 p4.2).bind fun p6 =>
      if p6.1 = 0 then
        some ((-1), p6.2)
      else
        (isO p6.2 9 a0).bind fun _ =>
        (f_Mo_isIn a0 x4 0 1 p6.2).bind fun p8 =>
        if p8.1 = 0 then
          some ((-1), p8.2)
        else
          f_Mo_driest_54 FU a0 x1 x2 x3 x4 0 p8.2
theorem t_Mo_driest {d : Nat} (hd : 3 ≤ d) {a0 : Nat} {x1 : Int32} {x2 : Int32} {x3 : Int32} {x4 : Int32} {h : PH} {r : Int32 × PH} (hq : f_Mo_driest a0 x1 x2 x3 x4 h = some r) : E d 0 0 m_Mo_driest 0 [(0, .ref a0), (1, .int x1), (2, .int x2), (3, .int x3), (4, .int x4)] [] h (PI r) := by
  unfold f_Mo_driest at hq
  obtain ⟨d, rfl⟩ : ∃ e, d = e + 1 := ⟨d - 1, by omega⟩
  refine E_aln 0 d_Mo_driest_0 rfl rfl ?_
  refine E_ic (v := 0) d_Mo_driest_1 (by decide) ?_
  obtain ⟨h1, eh1, hq⟩ := bd hq
  refine E_pI d_Mo_driest_2 lp_Mo_m_140 rfl eh1 ?_
  refine E_aln 0 d_Mo_driest_5 rfl rfl ?_
  refine E_iln 1 d_Mo_driest_6 rfl rfl ?_
  refine E_ic (v := 0) d_Mo_driest_7 (by decide) ?_
  refine E_bi (v := 9) d_Mo_driest_8 (by decide) ?_
  obtain ⟨q3, eq3, hq⟩ := bd hq
  obtain ⟨p2, ep2, hq⟩ := bd hq
  refine E_cV3I d_Mo_driest_10 ck_Mo_162 rfl rfl eq3 (Nat.le_of_ble_eq_true rfl) (Nat.le_of_ble_eq_true rfl) (t_Mo_isIn (by omega) ep2) ?_
  refine E_zeq (tgt := 49) d_Mo_driest_13 (by decide) (fun c => ?_) (fun c => ?_)
  · rw [if_pos c] at hq
    refine E_ic (v := (-1)) d_Mo_driest_49 (by decide) ?_
    exact E_rI d_Mo_driest_50 rfl hq
  · rw [if_neg c] at hq
    refine E_aln 0 d_Mo_driest_16 rfl rfl ?_
    refine E_iln 2 d_Mo_driest_17 rfl rfl ?_
    refine E_ic (v := 0) d_Mo_driest_18 (by decide) ?_
    refine E_bi (v := 9) d_Mo_driest_19 (by decide) ?_
    obtain ⟨q5, eq5, hq⟩ := bd hq
    obtain ⟨p4, ep4, hq⟩ := bd hq
    refine E_cV3I d_Mo_driest_21 ck_Mo_162 rfl rfl eq5 (Nat.le_of_ble_eq_true rfl) (Nat.le_of_ble_eq_true rfl) (t_Mo_isIn (by omega) ep4) ?_
    refine E_zeq (tgt := 49) d_Mo_driest_24 (by decide) (fun c => ?_) (fun c => ?_)
    · rw [if_pos c] at hq
      refine E_ic (v := (-1)) d_Mo_driest_49 (by decide) ?_
      exact E_rI d_Mo_driest_50 rfl hq
    · rw [if_neg c] at hq
      refine E_aln 0 d_Mo_driest_27 rfl rfl ?_
      refine E_iln 3 d_Mo_driest_28 rfl rfl ?_
      refine E_ic (v := 0) d_Mo_driest_29 (by decide) ?_
      refine E_bi (v := 99) d_Mo_driest_30 (by decide) ?_
      obtain ⟨q7, eq7, hq⟩ := bd hq
      obtain ⟨p6, ep6, hq⟩ := bd hq
      refine E_cV3I d_Mo_driest_32 ck_Mo_162 rfl rfl eq7 (Nat.le_of_ble_eq_true rfl) (Nat.le_of_ble_eq_true rfl) (t_Mo_isIn (by omega) ep6) ?_
      refine E_zeq (tgt := 49) d_Mo_driest_35 (by decide) (fun c => ?_) (fun c => ?_)
      · rw [if_pos c] at hq
        refine E_ic (v := (-1)) d_Mo_driest_49 (by decide) ?_
        exact E_rI d_Mo_driest_50 rfl hq
      · rw [if_neg c] at hq
        refine E_aln 0 d_Mo_driest_38 rfl rfl ?_
        refine E_il 4 d_Mo_driest_39 rfl ?_
        refine E_ic (v := 0) d_Mo_driest_41 (by decide) ?_
        refine E_ic (v := 1) d_Mo_driest_42 (by decide) ?_
        obtain ⟨q9, eq9, hq⟩ := bd hq
        obtain ⟨p8, ep8, hq⟩ := bd hq
        refine E_cV3I d_Mo_driest_43 ck_Mo_162 rfl rfl eq9 (Nat.le_of_ble_eq_true rfl) (Nat.le_of_ble_eq_true rfl) (t_Mo_isIn (by omega) ep8) ?_
        refine E_zne (tgt := 51) d_Mo_driest_46 (by decide) (fun c => ?_) (fun c => ?_)
        · rw [if_neg c] at hq
          refine E_ic (v := 0) d_Mo_driest_51 (by decide) ?_
          refine E_is (ls' := [(5, .int 0), (0, .ref a0), (1, .int x1), (2, .int x2), (3, .int x3), (4, .int x4)]) d_Mo_driest_52 (Nat.le_of_ble_eq_true rfl) rfl ?_
          exact E_sub (ks := [1, 2, 3, 4, 5, 0]) rfl <| t_Mo_driest_54 (by omega) _ _ _ _ _ _ _ _ _ hq
        · rw [if_pos c] at hq
          refine E_ic (v := (-1)) d_Mo_driest_49 (by decide) ?_
          exact E_rI d_Mo_driest_50 rfl hq
def f_Mo_count (a0 : Nat) (x1 : Int32) (x2 : Int32) (x3 : Int32) (h : PH) : Option (Int32 × PH) :=
  (stI h 9 a0 0 0).bind fun h1 =>
  (isO h1 9 a0).bind fun _ =>
  (f_Mo_isIn a0 x1 0 5 h1).bind fun p2 =>
  if p2.1 = 0 then
    rtZ 0 p2.2
  else
    (isO p2.2 9 a0).bind fun _ =>
    (f_Mo_isIn a0 x2 0 3 p2.2).bind fun p4 =>
    if p4.1 = 0 then
      rtZ 0 p4.2
    else
      (isO p4.2 9 a0).bind fun _ =>
      (f_Mo_isIn a0 x3 0 999 p4.2).bind fun p6 =>
      if p6.1 = 0 then
        rtZ 0 p6.2
      else
        (ldR p6.2 9 a0 62).bind fun v8 =>
        (wrA p6.2 v8 ((4 * x1) + x2) x3).bind fun h9 =>
        rtZ 1 h9
theorem t_Mo_count {d : Nat} (hd : 1 ≤ d) {a0 : Nat} {x1 : Int32} {x2 : Int32} {x3 : Int32} {h : PH} {r : Int32 × PH} (hq : f_Mo_count a0 x1 x2 x3 h = some r) : E d 0 0 m_Mo_count 0 [(0, .ref a0), (1, .int x1), (2, .int x2), (3, .int x3)] [] h (PI r) := by
  unfold f_Mo_count at hq
  obtain ⟨d, rfl⟩ : ∃ e, d = e + 1 := ⟨d - 1, by omega⟩
  refine E_aln 0 d_Mo_count_0 rfl rfl ?_
  refine E_ic (v := 0) d_Mo_count_1 (by decide) ?_
  obtain ⟨h1, eh1, hq⟩ := bd hq
  refine E_pI d_Mo_count_2 lp_Mo_m_140 rfl eh1 ?_
  refine E_aln 0 d_Mo_count_5 rfl rfl ?_
  refine E_iln 1 d_Mo_count_6 rfl rfl ?_
  refine E_ic (v := 0) d_Mo_count_7 (by decide) ?_
  refine E_ic (v := 5) d_Mo_count_8 (by decide) ?_
  obtain ⟨q3, eq3, hq⟩ := bd hq
  obtain ⟨p2, ep2, hq⟩ := bd hq
  refine E_cV3I d_Mo_count_9 ck_Mo_162 rfl rfl eq3 (Nat.le_of_ble_eq_true rfl) (Nat.le_of_ble_eq_true rfl) (t_Mo_isIn (by omega) ep2) ?_
  refine E_zeq (tgt := 37) d_Mo_count_12 (by decide) (fun c => ?_) (fun c => ?_)
  · rw [if_pos c] at hq
    refine E_ic (v := 0) d_Mo_count_37 (by decide) ?_
    exact E_rZ d_Mo_count_38 rfl hq
  · rw [if_neg c] at hq
    refine E_aln 0 d_Mo_count_15 rfl rfl ?_
    refine E_iln 2 d_Mo_count_16 rfl rfl ?_
    refine E_ic (v := 0) d_Mo_count_17 (by decide) ?_
    refine E_ic (v := 3) d_Mo_count_18 (by decide) ?_
    obtain ⟨q5, eq5, hq⟩ := bd hq
    obtain ⟨p4, ep4, hq⟩ := bd hq
    refine E_cV3I d_Mo_count_19 ck_Mo_162 rfl rfl eq5 (Nat.le_of_ble_eq_true rfl) (Nat.le_of_ble_eq_true rfl) (t_Mo_isIn (by omega) ep4) ?_
    refine E_zeq (tgt := 37) d_Mo_count_22 (by decide) (fun c => ?_) (fun c => ?_)
    · rw [if_pos c] at hq
      refine E_ic (v := 0) d_Mo_count_37 (by decide) ?_
      exact E_rZ d_Mo_count_38 rfl hq
    · rw [if_neg c] at hq
      refine E_aln 0 d_Mo_count_25 rfl rfl ?_
      refine E_iln 3 d_Mo_count_26 rfl rfl ?_
      refine E_ic (v := 0) d_Mo_count_27 (by decide) ?_
      refine E_si (v := 999) d_Mo_count_28 (by decide) ?_
      obtain ⟨q7, eq7, hq⟩ := bd hq
      obtain ⟨p6, ep6, hq⟩ := bd hq
      refine E_cV3I d_Mo_count_31 ck_Mo_162 rfl rfl eq7 (Nat.le_of_ble_eq_true rfl) (Nat.le_of_ble_eq_true rfl) (t_Mo_isIn (by omega) ep6) ?_
      refine E_zne (tgt := 39) d_Mo_count_34 (by decide) (fun c => ?_) (fun c => ?_)
      · rw [if_neg c] at hq
        refine E_aln 0 d_Mo_count_39 rfl rfl ?_
        obtain ⟨v8, ev8, hq⟩ := bd hq
        refine E_gR d_Mo_count_40 lk_Mo_122 rfl ev8 ?_
        refine E_ic (v := 4) d_Mo_count_43 (by decide) ?_
        refine E_iln 1 d_Mo_count_44 rfl rfl ?_
        refine E_imul d_Mo_count_45 ?_
        refine E_iln 2 d_Mo_count_46 rfl rfl ?_
        refine E_iadd d_Mo_count_47 ?_
        refine E_iln 3 d_Mo_count_48 rfl rfl ?_
        obtain ⟨h9, eh9, hq⟩ := bd hq
        refine E_wa d_Mo_count_49 eh9 ?_
        refine E_ic (v := 1) d_Mo_count_50 (by decide) ?_
        exact E_rZ d_Mo_count_51 rfl hq
      · rw [if_pos c] at hq
        refine E_ic (v := 0) d_Mo_count_37 (by decide) ?_
        exact E_rZ d_Mo_count_38 rfl hq
def f_Mo_oddsOf_39 : Nat → Nat → Int32 → Int32 → Int32 → Int32 → Int32 → PH → Option (Int32 × PH)
  | 0, _, _, _, _, _, _, _ => none
  | n + 1, a0, x1, x2, x3, x4, x5, h =>
    if 4 ≤ x5 then
      some (x4, h)
    else
      (isO h 9 a0).bind fun _ =>
      (f_Mo_has a0 x2 x5 h).bind fun p1 =>
      if p1.1 = 0 then
        f_Mo_oddsOf_39 n a0 x1 x2 x3 x4 (x5 + 1) p1.2
      else
        (ldR p1.2 9 a0 62).bind fun v3 =>
        (rdA p1.2 v3 ((4 * x1) + x5)).bind fun v4 =>
        (dvI (x4 * (v4 + 1)) x3).bind fun v5 =>
        f_Mo_oddsOf_39 n a0 x1 x2 x3 v5 (x5 + 1) p1.2
theorem t_Mo_oddsOf_39 {d : Nat} (hd : 1 ≤ d) : ∀ (n : Nat) (a0 : Nat) (x1 : Int32) (x2 : Int32) (x3 : Int32) (x4 : Int32) (x5 : Int32) (h : PH) (r : Int32 × PH), f_Mo_oddsOf_39 n a0 x1 x2 x3 x4 x5 h = some r → E d 0 0 m_Mo_oddsOf 39 [(0, .ref a0), (1, .int x1), (2, .int x2), (3, .int x3), (4, .int x4), (5, .int x5)] [] h (PI r) := by
  intro n
  induction n with
  | zero => intro a0 x1 x2 x3 x4 x5 h r hq; rw [f_Mo_oddsOf_39] at hq; cases hq
  | succ n ih =>
    intro a0 x1 x2 x3 x4 x5 h r hq
    rw [f_Mo_oddsOf_39] at hq
    obtain ⟨d, rfl⟩ : ∃ e, d = e + 1 := ⟨d - 1, by omega⟩
    refine E_il 5 d_Mo_oddsOf_39 rfl ?_
    refine E_ic (v := 4) d_Mo_oddsOf_41 (by decide) ?_
    refine E_jge (tgt := 81) d_Mo_oddsOf_42 (by decide) (fun c => ?_) (fun c => ?_)
    · rw [if_pos c] at hq
      refine E_il 4 d_Mo_oddsOf_81 rfl ?_
      exact E_rI d_Mo_oddsOf_83 rfl hq
    · rw [if_neg c] at hq
      refine E_aln 0 d_Mo_oddsOf_45 rfl rfl ?_
      refine E_iln 2 d_Mo_oddsOf_46 rfl rfl ?_
      refine E_il 5 d_Mo_oddsOf_47 rfl ?_
      obtain ⟨q2, eq2, hq⟩ := bd hq
      obtain ⟨p1, ep1, hq⟩ := bd hq
      refine E_cV2I d_Mo_oddsOf_49 ck_Mo_158 rfl rfl eq2 (Nat.le_of_ble_eq_true rfl) (Nat.le_of_ble_eq_true rfl) (t_Mo_has (by omega) ep1) ?_
      refine E_zeq (tgt := 75) d_Mo_oddsOf_52 (by decide) (fun c => ?_) (fun c => ?_)
      · rw [if_pos c] at hq
        refine E_inc (v := 1) (ls' := [(5, .int (x5 + 1)), (0, .ref a0), (1, .int x1), (2, .int x2), (3, .int x3), (4, .int x4)]) 5 d_Mo_oddsOf_75 rfl (Nat.le_of_ble_eq_true rfl) (by decide) rfl ?_
        refine E_goto (tgt := 39) d_Mo_oddsOf_78 (by decide) ?_
        exact E_sub (ks := [1, 2, 3, 4, 5, 0]) rfl <| ih _ _ _ _ _ _ _ _ hq
      · rw [if_neg c] at hq
        refine E_il 4 d_Mo_oddsOf_55 rfl ?_
        refine E_aln 0 d_Mo_oddsOf_57 rfl rfl ?_
        obtain ⟨v3, ev3, hq⟩ := bd hq
        refine E_gR d_Mo_oddsOf_58 lk_Mo_122 rfl ev3 ?_
        refine E_ic (v := 4) d_Mo_oddsOf_61 (by decide) ?_
        refine E_iln 1 d_Mo_oddsOf_62 rfl rfl ?_
        refine E_imul d_Mo_oddsOf_63 ?_
        refine E_il 5 d_Mo_oddsOf_64 rfl ?_
        refine E_iadd d_Mo_oddsOf_66 ?_
        obtain ⟨v4, ev4, hq⟩ := bd hq
        refine E_ra d_Mo_oddsOf_67 ev4 ?_
        refine E_ic (v := 1) d_Mo_oddsOf_68 (by decide) ?_
        refine E_iadd d_Mo_oddsOf_69 ?_
        refine E_imul d_Mo_oddsOf_70 ?_
        refine E_iln 3 d_Mo_oddsOf_71 rfl rfl ?_
        obtain ⟨v5, ev5, hq⟩ := bd hq
        refine E_dv d_Mo_oddsOf_72 ev5 ?_
        refine E_is (ls' := [(4, .int v5), (0, .ref a0), (1, .int x1), (2, .int x2), (3, .int x3), (5, .int x5)]) d_Mo_oddsOf_73 (Nat.le_of_ble_eq_true rfl) rfl ?_
        refine E_inc (v := 1) (ls' := [(5, .int (x5 + 1)), (4, .int v5), (0, .ref a0), (1, .int x1), (2, .int x2), (3, .int x3)]) 5 d_Mo_oddsOf_75 rfl (Nat.le_of_ble_eq_true rfl) (by decide) rfl ?_
        refine E_goto (tgt := 39) d_Mo_oddsOf_78 (by decide) ?_
        exact E_sub (ks := [2, 3, 4, 5, 1, 0]) rfl <| ih _ _ _ _ _ _ _ _ hq
def f_Mo_oddsOf_5 : Nat → Nat → Int32 → Int32 → Int32 → Int32 → PH → Option (Int32 × PH)
  | 0, _, _, _, _, _, _ => none
  | n + 1, a0, x1, x2, x3, x4, h =>
    if 4 ≤ x4 then
      f_Mo_oddsOf_39 FU a0 x1 x2 x3 166666 0 h
    else
      (ldR h 9 a0 62).bind fun v1 =>
      (rdA h v1 ((4 * x1) + x4)).bind fun v2 =>
      f_Mo_oddsOf_5 n a0 x1 x2 (x3 + v2) (x4 + 1) h
theorem t_Mo_oddsOf_5 {d : Nat} (hd : 1 ≤ d) : ∀ (n : Nat) (a0 : Nat) (x1 : Int32) (x2 : Int32) (x3 : Int32) (x4 : Int32) (h : PH) (r : Int32 × PH), f_Mo_oddsOf_5 n a0 x1 x2 x3 x4 h = some r → E d 0 0 m_Mo_oddsOf 5 [(0, .ref a0), (1, .int x1), (2, .int x2), (3, .int x3), (4, .int x4)] [] h (PI r) := by
  intro n
  induction n with
  | zero => intro a0 x1 x2 x3 x4 h r hq; rw [f_Mo_oddsOf_5] at hq; cases hq
  | succ n ih =>
    intro a0 x1 x2 x3 x4 h r hq
    rw [f_Mo_oddsOf_5] at hq
    obtain ⟨d, rfl⟩ : ∃ e, d = e + 1 := ⟨d - 1, by omega⟩
    refine E_il 4 d_Mo_oddsOf_5 rfl ?_
    refine E_ic (v := 4) d_Mo_oddsOf_7 (by decide) ?_
    refine E_jge (tgt := 31) d_Mo_oddsOf_8 (by decide) (fun c => ?_) (fun c => ?_)
    · rw [if_pos c] at hq
      refine E_ldcw d_Mo_oddsOf_31 kc_Mo_461 ?_
      refine E_is (ls' := [(4, .int 166666), (0, .ref a0), (1, .int x1), (2, .int x2), (3, .int x3)]) d_Mo_oddsOf_34 (Nat.le_of_ble_eq_true rfl) rfl ?_
      refine E_ic (v := 0) d_Mo_oddsOf_36 (by decide) ?_
      refine E_is (ls' := [(5, .int 0), (4, .int 166666), (0, .ref a0), (1, .int x1), (2, .int x2), (3, .int x3)]) d_Mo_oddsOf_37 (Nat.le_of_ble_eq_true rfl) rfl ?_
      exact E_sub (ks := [2, 3, 4, 5, 1, 0]) rfl <| t_Mo_oddsOf_39 (by omega) _ _ _ _ _ _ _ _ _ hq
    · rw [if_neg c] at hq
      refine E_iln 3 d_Mo_oddsOf_11 rfl rfl ?_
      refine E_aln 0 d_Mo_oddsOf_12 rfl rfl ?_
      obtain ⟨v1, ev1, hq⟩ := bd hq
      refine E_gR d_Mo_oddsOf_13 lk_Mo_122 rfl ev1 ?_
      refine E_ic (v := 4) d_Mo_oddsOf_16 (by decide) ?_
      refine E_iln 1 d_Mo_oddsOf_17 rfl rfl ?_
      refine E_imul d_Mo_oddsOf_18 ?_
      refine E_il 4 d_Mo_oddsOf_19 rfl ?_
      refine E_iadd d_Mo_oddsOf_21 ?_
      obtain ⟨v2, ev2, hq⟩ := bd hq
      refine E_ra d_Mo_oddsOf_22 ev2 ?_
      refine E_iadd d_Mo_oddsOf_23 ?_
      refine E_isn (ls' := [(3, .int (x3 + v2)), (0, .ref a0), (1, .int x1), (2, .int x2), (4, .int x4)]) d_Mo_oddsOf_24 (Nat.le_of_ble_eq_true rfl) rfl ?_
      refine E_inc (v := 1) (ls' := [(4, .int (x4 + 1)), (3, .int (x3 + v2)), (0, .ref a0), (1, .int x1), (2, .int x2)]) 4 d_Mo_oddsOf_25 rfl (Nat.le_of_ble_eq_true rfl) (by decide) rfl ?_
      refine E_goto (tgt := 5) d_Mo_oddsOf_28 (by decide) ?_
      exact E_sub (ks := [2, 3, 4, 1, 0]) rfl <| ih _ _ _ _ _ _ _ hq
def f_Mo_oddsOf (a0 : Nat) (x1 : Int32) (x2 : Int32) (h : PH) : Option (Int32 × PH) :=
  f_Mo_oddsOf_5 FU a0 x1 x2 4 0 h
theorem t_Mo_oddsOf {d : Nat} (hd : 1 ≤ d) {a0 : Nat} {x1 : Int32} {x2 : Int32} {h : PH} {r : Int32 × PH} (hq : f_Mo_oddsOf a0 x1 x2 h = some r) : E d 0 0 m_Mo_oddsOf 0 [(0, .ref a0), (1, .int x1), (2, .int x2)] [] h (PI r) := by
  unfold f_Mo_oddsOf at hq
  obtain ⟨d, rfl⟩ : ∃ e, d = e + 1 := ⟨d - 1, by omega⟩
  refine E_ic (v := 4) d_Mo_oddsOf_0 (by decide) ?_
  refine E_isn (ls' := [(3, .int 4), (0, .ref a0), (1, .int x1), (2, .int x2)]) d_Mo_oddsOf_1 (Nat.le_of_ble_eq_true rfl) rfl ?_
  refine E_ic (v := 0) d_Mo_oddsOf_2 (by decide) ?_
  refine E_is (ls' := [(4, .int 0), (3, .int 4), (0, .ref a0), (1, .int x1), (2, .int x2)]) d_Mo_oddsOf_3 (Nat.le_of_ble_eq_true rfl) rfl ?_
  exact E_sub (ks := [2, 3, 4, 1, 0]) rfl <| t_Mo_oddsOf_5 (by omega) _ _ _ _ _ _ _ _ hq
def f_Mo_shareOf_12 : Nat → Int32 → Int32 → Int32 → Int32 → PH → Option (Int32 × PH)
  | 0, _, _, _, _, _ => none
  | n + 1, x2, x3, x4, x5, h =>
    if 6 ≤ x5 then
      some (x3, h)
    else
      (dvI (x4 * 10) x2).bind fun v1 =>
      (rmI (x4 * 10) x2).bind fun v2 =>
      f_Mo_shareOf_12 n x2 ((10 * x3) + v1) v2 (x5 + 1) h
theorem t_Mo_shareOf_12 {d : Nat} (hd : 0 ≤ d) : ∀ (n : Nat) (x2 : Int32) (x3 : Int32) (x4 : Int32) (x5 : Int32) (h : PH) (r : Int32 × PH), f_Mo_shareOf_12 n x2 x3 x4 x5 h = some r → E d 0 0 m_Mo_shareOf 12 [(2, .int x2), (3, .int x3), (4, .int x4), (5, .int x5)] [] h (PI r) := by
  intro n
  induction n with
  | zero => intro x2 x3 x4 x5 h r hq; rw [f_Mo_shareOf_12] at hq; cases hq
  | succ n ih =>
    intro x2 x3 x4 x5 h r hq
    rw [f_Mo_shareOf_12] at hq
    refine E_il 3 d_Mo_shareOf_12 rfl ?_
    refine E_bi (v := 6) d_Mo_shareOf_14 (by decide) ?_
    refine E_jge (tgt := 48) d_Mo_shareOf_16 (by decide) (fun c => ?_) (fun c => ?_)
    · rw [if_pos c] at hq
      refine E_iln 1 d_Mo_shareOf_48 rfl rfl ?_
      exact E_rI d_Mo_shareOf_49 rfl hq
    · rw [if_neg c] at hq
      refine E_il 2 d_Mo_shareOf_19 rfl ?_
      refine E_bi (v := 10) d_Mo_shareOf_21 (by decide) ?_
      refine E_imul d_Mo_shareOf_23 ?_
      refine E_is (ls' := [(4, .int (x4 * 10)), (2, .int x2), (3, .int x3), (5, .int x5)]) d_Mo_shareOf_24 (Nat.le_of_ble_eq_true rfl) rfl ?_
      refine E_bi (v := 10) d_Mo_shareOf_26 (by decide) ?_
      refine E_iln 2 d_Mo_shareOf_28 rfl rfl ?_
      refine E_imul d_Mo_shareOf_29 ?_
      refine E_il 0 d_Mo_shareOf_30 rfl ?_
      refine E_iln 1 d_Mo_shareOf_32 rfl rfl ?_
      obtain ⟨v1, ev1, hq⟩ := bd hq
      refine E_dv d_Mo_shareOf_33 ev1 ?_
      refine E_iadd d_Mo_shareOf_34 ?_
      refine E_isn (ls' := [(3, .int ((10 * x3) + v1)), (4, .int (x4 * 10)), (2, .int x2), (5, .int x5)]) d_Mo_shareOf_35 (Nat.le_of_ble_eq_true rfl) rfl ?_
      refine E_il 1 d_Mo_shareOf_36 rfl ?_
      refine E_iln 2 d_Mo_shareOf_38 rfl rfl ?_
      obtain ⟨v2, ev2, hq⟩ := bd hq
      refine E_rm d_Mo_shareOf_39 ev2 ?_
      refine E_is (ls' := [(4, .int v2), (3, .int ((10 * x3) + v1)), (2, .int x2), (5, .int x5)]) d_Mo_shareOf_40 (Nat.le_of_ble_eq_true rfl) rfl ?_
      refine E_inc (v := 1) (ls' := [(5, .int (x5 + 1)), (4, .int v2), (3, .int ((10 * x3) + v1)), (2, .int x2)]) 3 d_Mo_shareOf_42 rfl (Nat.le_of_ble_eq_true rfl) (by decide) rfl ?_
      refine E_goto (tgt := 12) d_Mo_shareOf_45 (by decide) ?_
      exact E_sub (ks := [3, 2, 1, 0]) rfl <| ih _ _ _ _ _ _ hq
def f_Mo_shareOf (a0 : Nat) (x1 : Int32) (x2 : Int32) (h : PH) : Option (Int32 × PH) :=
  (dvI x1 x2).bind fun v1 =>
  (rmI x1 x2).bind fun v2 =>
  f_Mo_shareOf_12 FU x2 v1 v2 0 h
theorem t_Mo_shareOf {d : Nat} (hd : 0 ≤ d) {a0 : Nat} {x1 : Int32} {x2 : Int32} {h : PH} {r : Int32 × PH} (hq : f_Mo_shareOf a0 x1 x2 h = some r) : E d 0 0 m_Mo_shareOf 0 [(0, .ref a0), (1, .int x1), (2, .int x2)] [] h (PI r) := by
  unfold f_Mo_shareOf at hq
  refine E_iln 1 d_Mo_shareOf_0 rfl rfl ?_
  refine E_iln 2 d_Mo_shareOf_1 rfl rfl ?_
  obtain ⟨v1, ev1, hq⟩ := bd hq
  refine E_dv d_Mo_shareOf_2 ev1 ?_
  refine E_isn (ls' := [(3, .int v1), (0, .ref a0), (1, .int x1), (2, .int x2)]) d_Mo_shareOf_3 (Nat.le_of_ble_eq_true rfl) rfl ?_
  refine E_iln 2 d_Mo_shareOf_4 rfl rfl ?_
  refine E_iln 3 d_Mo_shareOf_5 rfl rfl ?_
  obtain ⟨v2, ev2, hq⟩ := bd hq
  refine E_rm d_Mo_shareOf_6 ev2 ?_
  refine E_is (ls' := [(4, .int v2), (3, .int v1), (0, .ref a0), (1, .int x1), (2, .int x2)]) d_Mo_shareOf_7 (Nat.le_of_ble_eq_true rfl) rfl ?_
  refine E_ic (v := 0) d_Mo_shareOf_9 (by decide) ?_
  refine E_is (ls' := [(5, .int 0), (4, .int v2), (3, .int v1), (0, .ref a0), (1, .int x1), (2, .int x2)]) d_Mo_shareOf_10 (Nat.le_of_ble_eq_true rfl) rfl ?_
  exact E_sub (ks := [5, 2, 1, 0]) rfl <| t_Mo_shareOf_12 (by omega) _ _ _ _ _ _ _ hq
def f_Mo_likely_77 (k36 : Nat → Int32 → Int32 → Int32 → Int32 → Int32 → PH → Option (Int32 × PH)) (a0 : Nat) (x1 : Int32) (x2 : Int32) (x3 : Int32) (x5 : Int32) (s0 : Int32) (h : PH) : Option (Int32 × PH) :=
  k36 a0 x1 x2 x3 s0 (x5 + 1) h
theorem t_Mo_likely_77 {d : Nat} (hd : 2 ≤ d) {k36 : Nat → Int32 → Int32 → Int32 → Int32 → Int32 → PH → Option (Int32 × PH)} (hk36 : ∀ (a0 : Nat) (x1 : Int32) (x2 : Int32) (x3 : Int32) (x4 : Int32) (x5 : Int32) (h : PH) (r : Int32 × PH), k36 a0 x1 x2 x3 x4 x5 h = some r → E d 0 0 m_Mo_likely 36 [(0, .ref a0), (1, .int x1), (2, .int x2), (3, .int x3), (4, .int x4), (5, .int x5)] [] h (PI r)) {a0 : Nat} {x1 : Int32} {x2 : Int32} {x3 : Int32} {x5 : Int32} {s0 : Int32} {h : PH} {r : Int32 × PH} (hq : f_Mo_likely_77 k36 a0 x1 x2 x3 x5 s0 h = some r) : E d 0 0 m_Mo_likely 77 [(0, .ref a0), (1, .int x1), (2, .int x2), (3, .int x3), (5, .int x5)] [.int s0] h (PI r) := by
  unfold f_Mo_likely_77 at hq
  obtain ⟨d, rfl⟩ : ∃ e, d = e + 1 := ⟨d - 1, by omega⟩
  refine E_is (ls' := [(4, .int s0), (0, .ref a0), (1, .int x1), (2, .int x2), (3, .int x3), (5, .int x5)]) d_Mo_likely_77 (Nat.le_of_ble_eq_true rfl) rfl ?_
  refine E_inc (v := 1) (ls' := [(5, .int (x5 + 1)), (4, .int s0), (0, .ref a0), (1, .int x1), (2, .int x2), (3, .int x3)]) 5 d_Mo_likely_79 rfl (Nat.le_of_ble_eq_true rfl) (by decide) rfl ?_
  refine E_goto (tgt := 36) d_Mo_likely_82 (by decide) ?_
  exact E_sub (ks := [2, 3, 4, 5, 1, 0]) rfl <| hk36 _ _ _ _ _ _ _ _ hq
def f_Mo_likely_36 : Nat → Nat → Int32 → Int32 → Int32 → Int32 → Int32 → PH → Option (Int32 × PH)
  | 0, _, _, _, _, _, _, _ => none
  | n + 1, a0, x1, x2, x3, x4, x5, h =>
    if 6 ≤ x5 then
      if x1 = (-1) then
        some (x4, h)
      else
        if x3 = 0 then
          some (0, h)
        else
          (isO h 9 a0).bind fun _ =>
          (f_Mo_oddsOf a0 x1 x2 h).bind fun p1 =>
          (isO p1.2 9 a0).bind fun _ =>
          (f_Mo_shareOf a0 p1.1 x3 p1.2).bind fun p3 =>
          some (p3.1, p3.2)
    else
      (isO h 9 a0).bind fun _ =>
      (f_Mo_oddsOf a0 x5 x2 h).bind fun p5 =>
      (isO p5.2 9 a0).bind fun _ =>
      (f_Mo_oddsOf a0 x5 x2 p5.2).bind fun p7 =>
      (isO p7.2 9 a0).bind fun _ =>
      (f_Mo_oddsOf a0 x4 x2 p7.2).bind fun p9 =>
      if p7.1 ≤ p9.1 then
        f_Mo_likely_77 (fun a0 x1 x2 x3 x4 x5 h => f_Mo_likely_36 n a0 x1 x2 x3 x4 x5 h) a0 x1 x2 (x3 + p5.1) x5 x4 p9.2
      else
        f_Mo_likely_77 (fun a0 x1 x2 x3 x4 x5 h => f_Mo_likely_36 n a0 x1 x2 x3 x4 x5 h) a0 x1 x2 (x3 + p5.1) x5 x5 p9.2
theorem t_Mo_likely_36 {d : Nat} (hd : 2 ≤ d) : ∀ (n : Nat) (a0 : Nat) (x1 : Int32) (x2 : Int32) (x3 : Int32) (x4 : Int32) (x5 : Int32) (h : PH) (r : Int32 × PH), f_Mo_likely_36 n a0 x1 x2 x3 x4 x5 h = some r → E d 0 0 m_Mo_likely 36 [(0, .ref a0), (1, .int x1), (2, .int x2), (3, .int x3), (4, .int x4), (5, .int x5)] [] h (PI r) := by
  intro n
  induction n with
  | zero => intro a0 x1 x2 x3 x4 x5 h r hq; rw [f_Mo_likely_36] at hq; cases hq
  | succ n ih =>
    intro a0 x1 x2 x3 x4 x5 h r hq
    rw [f_Mo_likely_36] at hq
    obtain ⟨d, rfl⟩ : ∃ e, d = e + 1 := ⟨d - 1, by omega⟩
    refine E_il 5 d_Mo_likely_36 rfl ?_
    refine E_bi (v := 6) d_Mo_likely_38 (by decide) ?_
    refine E_jge (tgt := 85) d_Mo_likely_40 (by decide) (fun c => ?_) (fun c => ?_)
    · rw [if_pos c] at hq
      refine E_iln 1 d_Mo_likely_85 rfl rfl ?_
      refine E_ic (v := (-1)) d_Mo_likely_86 (by decide) ?_
      refine E_jne (tgt := 93) d_Mo_likely_87 (by decide) (fun c => ?_) (fun c => ?_)
      · rw [if_neg c] at hq
        refine E_iln 3 d_Mo_likely_93 rfl rfl ?_
        refine E_zne (tgt := 101) d_Mo_likely_94 (by decide) (fun c => ?_) (fun c => ?_)
        · rw [if_neg c] at hq
          refine E_aln 0 d_Mo_likely_101 rfl rfl ?_
          refine E_aln 0 d_Mo_likely_102 rfl rfl ?_
          refine E_iln 1 d_Mo_likely_103 rfl rfl ?_
          refine E_iln 2 d_Mo_likely_104 rfl rfl ?_
          obtain ⟨q2, eq2, hq⟩ := bd hq
          obtain ⟨p1, ep1, hq⟩ := bd hq
          refine E_cV2I d_Mo_likely_105 ck_Mo_462 rfl rfl eq2 (Nat.le_of_ble_eq_true rfl) (Nat.le_of_ble_eq_true rfl) (t_Mo_oddsOf (by omega) ep1) ?_
          refine E_iln 3 d_Mo_likely_108 rfl rfl ?_
          obtain ⟨q4, eq4, hq⟩ := bd hq
          obtain ⟨p3, ep3, hq⟩ := bd hq
          refine E_cV2I d_Mo_likely_109 ck_Mo_465 rfl rfl eq4 (Nat.le_of_ble_eq_true rfl) (Nat.le_of_ble_eq_true rfl) (t_Mo_shareOf (by omega) ep3) ?_
          exact E_rI d_Mo_likely_112 rfl hq
        · rw [if_pos c] at hq
          refine E_ic (v := 0) d_Mo_likely_97 (by decide) ?_
          refine E_goto (tgt := 112) d_Mo_likely_98 (by decide) ?_
          exact E_rI d_Mo_likely_112 rfl hq
      · rw [if_pos c] at hq
        refine E_il 4 d_Mo_likely_90 rfl ?_
        exact E_rI d_Mo_likely_92 rfl hq
    · rw [if_neg c] at hq
      refine E_iln 3 d_Mo_likely_43 rfl rfl ?_
      refine E_aln 0 d_Mo_likely_44 rfl rfl ?_
      refine E_il 5 d_Mo_likely_45 rfl ?_
      refine E_iln 2 d_Mo_likely_47 rfl rfl ?_
      obtain ⟨q6, eq6, hq⟩ := bd hq
      obtain ⟨p5, ep5, hq⟩ := bd hq
      refine E_cV2I d_Mo_likely_48 ck_Mo_462 rfl rfl eq6 (Nat.le_of_ble_eq_true rfl) (Nat.le_of_ble_eq_true rfl) (t_Mo_oddsOf (by omega) ep5) ?_
      refine E_iadd d_Mo_likely_51 ?_
      refine E_isn (ls' := [(3, .int (x3 + p5.1)), (0, .ref a0), (1, .int x1), (2, .int x2), (4, .int x4), (5, .int x5)]) d_Mo_likely_52 (Nat.le_of_ble_eq_true rfl) rfl ?_
      refine E_aln 1 d_Mo_likely_53 rfl rfl ?_
      refine E_il 5 d_Mo_likely_54 rfl ?_
      refine E_iln 3 d_Mo_likely_56 rfl rfl ?_
      obtain ⟨q8, eq8, hq⟩ := bd hq
      obtain ⟨p7, ep7, hq⟩ := bd hq
      refine E_cV2I d_Mo_likely_57 ck_Mo_462 rfl rfl eq8 (Nat.le_of_ble_eq_true rfl) (Nat.le_of_ble_eq_true rfl) (t_Mo_oddsOf (by omega) ep7) ?_
      refine E_aln 1 d_Mo_likely_60 rfl rfl ?_
      refine E_il 4 d_Mo_likely_61 rfl ?_
      refine E_iln 3 d_Mo_likely_63 rfl rfl ?_
      obtain ⟨q10, eq10, hq⟩ := bd hq
      obtain ⟨p9, ep9, hq⟩ := bd hq
      refine E_cV2I d_Mo_likely_64 ck_Mo_462 rfl rfl eq10 (Nat.le_of_ble_eq_true rfl) (Nat.le_of_ble_eq_true rfl) (t_Mo_oddsOf (by omega) ep9) ?_
      refine E_jle (tgt := 75) d_Mo_likely_67 (by decide) (fun c => ?_) (fun c => ?_)
      · rw [if_pos c] at hq
        refine E_il 4 d_Mo_likely_75 rfl ?_
        exact E_sub (ks := [1, 2, 3, 0, 5]) rfl <| t_Mo_likely_77 (by omega) ih hq
      · rw [if_neg c] at hq
        refine E_il 5 d_Mo_likely_70 rfl ?_
        refine E_goto (tgt := 77) d_Mo_likely_72 (by decide) ?_
        exact E_sub (ks := [1, 2, 3, 0, 5]) rfl <| t_Mo_likely_77 (by omega) ih hq
def f_Mo_likely (a0 : Nat) (x1 : Int32) (x2 : Int32) (h : PH) : Option (Int32 × PH) :=
  (stI h 9 a0 0 0).bind fun h1 =>
  (isO h1 9 a0).bind fun _ =>
  (f_Mo_isIn a0 x1 (-1) 5 h1).bind fun p2 =>
  if p2.1 = 0 then
    some ((-1), p2.2)
  else
    (isO p2.2 9 a0).bind fun _ =>
    (f_Mo_isIn a0 x2 0 15 p2.2).bind fun p4 =>
    if p4.1 = 0 then
      some ((-1), p4.2)
    else
      f_Mo_likely_36 FU a0 x1 x2 0 0 0 p4.2
theorem t_Mo_likely {d : Nat} (hd : 2 ≤ d) {a0 : Nat} {x1 : Int32} {x2 : Int32} {h : PH} {r : Int32 × PH} (hq : f_Mo_likely a0 x1 x2 h = some r) : E d 0 0 m_Mo_likely 0 [(0, .ref a0), (1, .int x1), (2, .int x2)] [] h (PI r) := by
  unfold f_Mo_likely at hq
  obtain ⟨d, rfl⟩ : ∃ e, d = e + 1 := ⟨d - 1, by omega⟩
  refine E_aln 0 d_Mo_likely_0 rfl rfl ?_
  refine E_ic (v := 0) d_Mo_likely_1 (by decide) ?_
  obtain ⟨h1, eh1, hq⟩ := bd hq
  refine E_pI d_Mo_likely_2 lp_Mo_m_140 rfl eh1 ?_
  refine E_aln 0 d_Mo_likely_5 rfl rfl ?_
  refine E_iln 1 d_Mo_likely_6 rfl rfl ?_
  refine E_ic (v := (-1)) d_Mo_likely_7 (by decide) ?_
  refine E_ic (v := 5) d_Mo_likely_8 (by decide) ?_
  obtain ⟨q3, eq3, hq⟩ := bd hq
  obtain ⟨p2, ep2, hq⟩ := bd hq
  refine E_cV3I d_Mo_likely_9 ck_Mo_162 rfl rfl eq3 (Nat.le_of_ble_eq_true rfl) (Nat.le_of_ble_eq_true rfl) (t_Mo_isIn (by omega) ep2) ?_
  refine E_zeq (tgt := 26) d_Mo_likely_12 (by decide) (fun c => ?_) (fun c => ?_)
  · rw [if_pos c] at hq
    refine E_ic (v := (-1)) d_Mo_likely_26 (by decide) ?_
    exact E_rI d_Mo_likely_27 rfl hq
  · rw [if_neg c] at hq
    refine E_aln 0 d_Mo_likely_15 rfl rfl ?_
    refine E_iln 2 d_Mo_likely_16 rfl rfl ?_
    refine E_ic (v := 0) d_Mo_likely_17 (by decide) ?_
    refine E_bi (v := 15) d_Mo_likely_18 (by decide) ?_
    obtain ⟨q5, eq5, hq⟩ := bd hq
    obtain ⟨p4, ep4, hq⟩ := bd hq
    refine E_cV3I d_Mo_likely_20 ck_Mo_162 rfl rfl eq5 (Nat.le_of_ble_eq_true rfl) (Nat.le_of_ble_eq_true rfl) (t_Mo_isIn (by omega) ep4) ?_
    refine E_zne (tgt := 28) d_Mo_likely_23 (by decide) (fun c => ?_) (fun c => ?_)
    · rw [if_neg c] at hq
      refine E_ic (v := 0) d_Mo_likely_28 (by decide) ?_
      refine E_isn (ls' := [(3, .int 0), (0, .ref a0), (1, .int x1), (2, .int x2)]) d_Mo_likely_29 (Nat.le_of_ble_eq_true rfl) rfl ?_
      refine E_ic (v := 0) d_Mo_likely_30 (by decide) ?_
      refine E_is (ls' := [(4, .int 0), (3, .int 0), (0, .ref a0), (1, .int x1), (2, .int x2)]) d_Mo_likely_31 (Nat.le_of_ble_eq_true rfl) rfl ?_
      refine E_ic (v := 0) d_Mo_likely_33 (by decide) ?_
      refine E_is (ls' := [(5, .int 0), (4, .int 0), (3, .int 0), (0, .ref a0), (1, .int x1), (2, .int x2)]) d_Mo_likely_34 (Nat.le_of_ble_eq_true rfl) rfl ?_
      exact E_sub (ks := [3, 4, 5, 2, 1, 0]) rfl <| t_Mo_likely_36 (by omega) _ _ _ _ _ _ _ _ _ hq
    · rw [if_pos c] at hq
      refine E_ic (v := (-1)) d_Mo_likely_26 (by decide) ?_
      exact E_rI d_Mo_likely_27 rfl hq
def f_Mo_salt (a0 : Nat) (x1 : Int32) (h : PH) : Option (Int32 × PH) :=
  (stI h 9 a0 0 0).bind fun h1 =>
  if x1 = (-1) then
    (stI h1 9 a0 63 0).bind fun h11 =>
    some (0, h11)
  else
    (isO h1 9 a0).bind fun _ =>
    (f_Mo_isIn a0 x1 0 99 h1).bind fun p2 =>
    if p2.1 = 0 then
      some ((-1), p2.2)
    else
      (ldI p2.2 9 a0 63).bind fun v4 =>
      if v4 = 12 then
        some ((-1), p2.2)
      else
        (ldR p2.2 9 a0 64).bind fun v5 =>
        (ldI p2.2 9 a0 63).bind fun v6 =>
        (wrA p2.2 v5 v6 x1).bind fun h7 =>
        (ldI h7 9 a0 63).bind fun v8 =>
        (stI h7 9 a0 63 (v8 + 1)).bind fun h9 =>
        (ldI h9 9 a0 63).bind fun v10 =>
        some (v10, h9)
theorem t_Mo_salt {d : Nat} (hd : 1 ≤ d) {a0 : Nat} {x1 : Int32} {h : PH} {r : Int32 × PH} (hq : f_Mo_salt a0 x1 h = some r) : E d 0 0 m_Mo_salt 0 [(0, .ref a0), (1, .int x1)] [] h (PI r) := by
  unfold f_Mo_salt at hq
  obtain ⟨d, rfl⟩ : ∃ e, d = e + 1 := ⟨d - 1, by omega⟩
  refine E_aln 0 d_Mo_salt_0 rfl rfl ?_
  refine E_ic (v := 0) d_Mo_salt_1 (by decide) ?_
  obtain ⟨h1, eh1, hq⟩ := bd hq
  refine E_pI d_Mo_salt_2 lp_Mo_m_140 rfl eh1 ?_
  refine E_iln 1 d_Mo_salt_5 rfl rfl ?_
  refine E_ic (v := (-1)) d_Mo_salt_6 (by decide) ?_
  refine E_jne (tgt := 17) d_Mo_salt_7 (by decide) (fun c => ?_) (fun c => ?_)
  · rw [if_neg c] at hq
    refine E_aln 0 d_Mo_salt_17 rfl rfl ?_
    refine E_iln 1 d_Mo_salt_18 rfl rfl ?_
    refine E_ic (v := 0) d_Mo_salt_19 (by decide) ?_
    refine E_bi (v := 99) d_Mo_salt_20 (by decide) ?_
    obtain ⟨q3, eq3, hq⟩ := bd hq
    obtain ⟨p2, ep2, hq⟩ := bd hq
    refine E_cV3I d_Mo_salt_22 ck_Mo_162 rfl rfl eq3 (Nat.le_of_ble_eq_true rfl) (Nat.le_of_ble_eq_true rfl) (t_Mo_isIn (by omega) ep2) ?_
    refine E_zeq (tgt := 37) d_Mo_salt_25 (by decide) (fun c => ?_) (fun c => ?_)
    · rw [if_pos c] at hq
      refine E_ic (v := (-1)) d_Mo_salt_37 (by decide) ?_
      exact E_rI d_Mo_salt_38 rfl hq
    · rw [if_neg c] at hq
      refine E_aln 0 d_Mo_salt_28 rfl rfl ?_
      obtain ⟨v4, ev4, hq⟩ := bd hq
      refine E_gI d_Mo_salt_29 lk_Mo_468 rfl ev4 ?_
      refine E_bi (v := 12) d_Mo_salt_32 (by decide) ?_
      refine E_jne (tgt := 39) d_Mo_salt_34 (by decide) (fun c => ?_) (fun c => ?_)
      · rw [if_neg c] at hq
        refine E_aln 0 d_Mo_salt_39 rfl rfl ?_
        obtain ⟨v5, ev5, hq⟩ := bd hq
        refine E_gR d_Mo_salt_40 lk_Mo_125 rfl ev5 ?_
        refine E_aln 0 d_Mo_salt_43 rfl rfl ?_
        obtain ⟨v6, ev6, hq⟩ := bd hq
        refine E_gI d_Mo_salt_44 lk_Mo_468 rfl ev6 ?_
        refine E_iln 1 d_Mo_salt_47 rfl rfl ?_
        obtain ⟨h7, eh7, hq⟩ := bd hq
        refine E_wa d_Mo_salt_48 eh7 ?_
        refine E_aln 0 d_Mo_salt_49 rfl rfl ?_
        refine E_aln 0 d_Mo_salt_50 rfl rfl ?_
        obtain ⟨v8, ev8, hq⟩ := bd hq
        refine E_gI d_Mo_salt_51 lk_Mo_468 rfl ev8 ?_
        refine E_ic (v := 1) d_Mo_salt_54 (by decide) ?_
        refine E_iadd d_Mo_salt_55 ?_
        obtain ⟨h9, eh9, hq⟩ := bd hq
        refine E_pI d_Mo_salt_56 lp_Mo_m_468 rfl eh9 ?_
        refine E_aln 0 d_Mo_salt_59 rfl rfl ?_
        obtain ⟨v10, ev10, hq⟩ := bd hq
        refine E_gI d_Mo_salt_60 lk_Mo_468 rfl ev10 ?_
        exact E_rI d_Mo_salt_63 rfl hq
      · rw [if_pos c] at hq
        refine E_ic (v := (-1)) d_Mo_salt_37 (by decide) ?_
        exact E_rI d_Mo_salt_38 rfl hq
  · rw [if_pos c] at hq
    refine E_aln 0 d_Mo_salt_10 rfl rfl ?_
    refine E_ic (v := 0) d_Mo_salt_11 (by decide) ?_
    obtain ⟨h11, eh11, hq⟩ := bd hq
    refine E_pI d_Mo_salt_12 lp_Mo_m_468 rfl eh11 ?_
    refine E_ic (v := 0) d_Mo_salt_15 (by decide) ?_
    exact E_rI d_Mo_salt_16 rfl hq
def f_Mo_won_139 : Nat → Nat → Int32 → Int32 → Int32 → PH → Option (Int32 × PH)
  | 0, _, _, _, _, _ => none
  | n + 1, a0, x1, x2, x3, h =>
    if x1 < x3 then
      some (x2, h)
    else
      (ldR h 9 a0 65).bind fun v1 =>
      (rdA h v1 x3).bind fun v2 =>
      (isO h 9 a0).bind fun _ =>
      (f_Mo_greater a0 x2 v2 h).bind fun p3 =>
      f_Mo_won_139 n a0 x1 p3.1 (x3 + 1) p3.2
theorem t_Mo_won_139 {d : Nat} (hd : 1 ≤ d) : ∀ (n : Nat) (a0 : Nat) (x1 : Int32) (x2 : Int32) (x3 : Int32) (h : PH) (r : Int32 × PH), f_Mo_won_139 n a0 x1 x2 x3 h = some r → E d 0 0 m_Mo_won 139 [(0, .ref a0), (1, .int x1), (2, .int x2), (3, .int x3)] [] h (PI r) := by
  intro n
  induction n with
  | zero => intro a0 x1 x2 x3 h r hq; rw [f_Mo_won_139] at hq; cases hq
  | succ n ih =>
    intro a0 x1 x2 x3 h r hq
    rw [f_Mo_won_139] at hq
    obtain ⟨d, rfl⟩ : ∃ e, d = e + 1 := ⟨d - 1, by omega⟩
    refine E_iln 3 d_Mo_won_139 rfl rfl ?_
    refine E_iln 1 d_Mo_won_140 rfl rfl ?_
    refine E_jgt (tgt := 162) d_Mo_won_141 (by decide) (fun c => ?_) (fun c => ?_)
    · rw [if_pos c] at hq
      refine E_iln 2 d_Mo_won_162 rfl rfl ?_
      exact E_rI d_Mo_won_163 rfl hq
    · rw [if_neg c] at hq
      refine E_aln 0 d_Mo_won_144 rfl rfl ?_
      refine E_iln 2 d_Mo_won_145 rfl rfl ?_
      refine E_aln 0 d_Mo_won_146 rfl rfl ?_
      obtain ⟨v1, ev1, hq⟩ := bd hq
      refine E_gR d_Mo_won_147 lk_Mo_128 rfl ev1 ?_
      refine E_iln 3 d_Mo_won_150 rfl rfl ?_
      obtain ⟨v2, ev2, hq⟩ := bd hq
      refine E_ra d_Mo_won_151 ev2 ?_
      obtain ⟨q4, eq4, hq⟩ := bd hq
      obtain ⟨p3, ep3, hq⟩ := bd hq
      refine E_cV2I d_Mo_won_152 ck_Mo_339 rfl rfl eq4 (Nat.le_of_ble_eq_true rfl) (Nat.le_of_ble_eq_true rfl) (t_Mo_greater (by omega) ep3) ?_
      refine E_isn (ls' := [(2, .int p3.1), (0, .ref a0), (1, .int x1), (3, .int x3)]) d_Mo_won_155 (Nat.le_of_ble_eq_true rfl) rfl ?_
      refine E_inc (v := 1) (ls' := [(3, .int (x3 + 1)), (2, .int p3.1), (0, .ref a0), (1, .int x1)]) 3 d_Mo_won_156 rfl (Nat.le_of_ble_eq_true rfl) (by decide) rfl ?_
      refine E_goto (tgt := 139) d_Mo_won_159 (by decide) ?_
      exact E_sub (ks := [2, 3, 1, 0]) rfl <| ih _ _ _ _ _ _ hq
def f_Mo_won_58 (k48 : Nat → Int32 → Int32 → PH → Option (Int32 × PH)) : Nat → Nat → Int32 → Int32 → Int32 → PH → Option (Int32 × PH)
  | 0, _, _, _, _, _ => none
  | n + 1, a0, x1, x2, x3, h =>
    if x1 < x3 then
      k48 a0 x1 (x2 + 1) h
    else
      (ldR h 9 a0 65).bind fun v1 =>
      (ldR h 9 a0 65).bind fun v2 =>
      (rdA h v2 x3).bind fun v3 =>
      (ldR h 9 a0 66).bind fun v4 =>
      (rdA h v4 x3).bind fun v5 =>
      (ldR h 9 a0 64).bind fun v6 =>
      (rdA h v6 x2).bind fun v7 =>
      (isO h 9 a0).bind fun _ =>
      (f_Mo_greater a0 v3 (v5 + v7) h).bind fun p8 =>
      (wrA p8.2 v1 x3 p8.1).bind fun h10 =>
      (ldR h10 9 a0 66).bind fun v11 =>
      (ldR h10 9 a0 66).bind fun v12 =>
      (rdA h10 v12 x3).bind fun v13 =>
      (ldR h10 9 a0 65).bind fun v14 =>
      (rdA h10 v14 (x3 - 1)).bind fun v15 =>
      (ldR h10 9 a0 64).bind fun v16 =>
      (rdA h10 v16 x2).bind fun v17 =>
      (isO h10 9 a0).bind fun _ =>
      (f_Mo_greater a0 v13 (v15 - v17) h10).bind fun p18 =>
      (wrA p18.2 v11 x3 p18.1).bind fun h20 =>
      f_Mo_won_58 k48 n a0 x1 x2 (x3 + 1) h20
theorem t_Mo_won_58 {d : Nat} (hd : 1 ≤ d) {k48 : Nat → Int32 → Int32 → PH → Option (Int32 × PH)} (hk48 : ∀ (a0 : Nat) (x1 : Int32) (x2 : Int32) (h : PH) (r : Int32 × PH), k48 a0 x1 x2 h = some r → E d 0 0 m_Mo_won 48 [(0, .ref a0), (1, .int x1), (2, .int x2)] [] h (PI r)) : ∀ (n : Nat) (a0 : Nat) (x1 : Int32) (x2 : Int32) (x3 : Int32) (h : PH) (r : Int32 × PH), f_Mo_won_58 k48 n a0 x1 x2 x3 h = some r → E d 0 0 m_Mo_won 58 [(0, .ref a0), (1, .int x1), (2, .int x2), (3, .int x3)] [] h (PI r) := by
  intro n
  induction n with
  | zero => intro a0 x1 x2 x3 h r hq; rw [f_Mo_won_58] at hq; cases hq
  | succ n ih =>
    intro a0 x1 x2 x3 h r hq
    rw [f_Mo_won_58] at hq
    obtain ⟨d, rfl⟩ : ∃ e, d = e + 1 := ⟨d - 1, by omega⟩
    refine E_iln 3 d_Mo_won_58 rfl rfl ?_
    refine E_iln 1 d_Mo_won_59 rfl rfl ?_
    refine E_jgt (tgt := 129) d_Mo_won_60 (by decide) (fun c => ?_) (fun c => ?_)
    · rw [if_pos c] at hq
      refine E_inc (v := 1) (ls' := [(2, .int (x2 + 1)), (0, .ref a0), (1, .int x1), (3, .int x3)]) 2 d_Mo_won_129 rfl (Nat.le_of_ble_eq_true rfl) (by decide) rfl ?_
      refine E_goto (tgt := 48) d_Mo_won_132 (by decide) ?_
      exact E_sub (ks := [1, 2, 0]) rfl <| hk48 _ _ _ _ _ hq
    · rw [if_neg c] at hq
      refine E_aln 0 d_Mo_won_63 rfl rfl ?_
      obtain ⟨v1, ev1, hq⟩ := bd hq
      refine E_gR d_Mo_won_64 lk_Mo_128 rfl ev1 ?_
      refine E_iln 3 d_Mo_won_67 rfl rfl ?_
      refine E_aln 0 d_Mo_won_68 rfl rfl ?_
      refine E_aln 0 d_Mo_won_69 rfl rfl ?_
      obtain ⟨v2, ev2, hq⟩ := bd hq
      refine E_gR d_Mo_won_70 lk_Mo_128 rfl ev2 ?_
      refine E_iln 3 d_Mo_won_73 rfl rfl ?_
      obtain ⟨v3, ev3, hq⟩ := bd hq
      refine E_ra d_Mo_won_74 ev3 ?_
      refine E_aln 0 d_Mo_won_75 rfl rfl ?_
      obtain ⟨v4, ev4, hq⟩ := bd hq
      refine E_gR d_Mo_won_76 lk_Mo_131 rfl ev4 ?_
      refine E_iln 3 d_Mo_won_79 rfl rfl ?_
      obtain ⟨v5, ev5, hq⟩ := bd hq
      refine E_ra d_Mo_won_80 ev5 ?_
      refine E_aln 0 d_Mo_won_81 rfl rfl ?_
      obtain ⟨v6, ev6, hq⟩ := bd hq
      refine E_gR d_Mo_won_82 lk_Mo_125 rfl ev6 ?_
      refine E_iln 2 d_Mo_won_85 rfl rfl ?_
      obtain ⟨v7, ev7, hq⟩ := bd hq
      refine E_ra d_Mo_won_86 ev7 ?_
      refine E_iadd d_Mo_won_87 ?_
      obtain ⟨q9, eq9, hq⟩ := bd hq
      obtain ⟨p8, ep8, hq⟩ := bd hq
      refine E_cV2I d_Mo_won_88 ck_Mo_339 rfl rfl eq9 (Nat.le_of_ble_eq_true rfl) (Nat.le_of_ble_eq_true rfl) (t_Mo_greater (by omega) ep8) ?_
      obtain ⟨h10, eh10, hq⟩ := bd hq
      refine E_wa d_Mo_won_91 eh10 ?_
      refine E_aln 0 d_Mo_won_92 rfl rfl ?_
      obtain ⟨v11, ev11, hq⟩ := bd hq
      refine E_gR d_Mo_won_93 lk_Mo_131 rfl ev11 ?_
      refine E_iln 3 d_Mo_won_96 rfl rfl ?_
      refine E_aln 0 d_Mo_won_97 rfl rfl ?_
      refine E_aln 0 d_Mo_won_98 rfl rfl ?_
      obtain ⟨v12, ev12, hq⟩ := bd hq
      refine E_gR d_Mo_won_99 lk_Mo_131 rfl ev12 ?_
      refine E_iln 3 d_Mo_won_102 rfl rfl ?_
      obtain ⟨v13, ev13, hq⟩ := bd hq
      refine E_ra d_Mo_won_103 ev13 ?_
      refine E_aln 0 d_Mo_won_104 rfl rfl ?_
      obtain ⟨v14, ev14, hq⟩ := bd hq
      refine E_gR d_Mo_won_105 lk_Mo_128 rfl ev14 ?_
      refine E_iln 3 d_Mo_won_108 rfl rfl ?_
      refine E_ic (v := 1) d_Mo_won_109 (by decide) ?_
      refine E_isub d_Mo_won_110 ?_
      obtain ⟨v15, ev15, hq⟩ := bd hq
      refine E_ra d_Mo_won_111 ev15 ?_
      refine E_aln 0 d_Mo_won_112 rfl rfl ?_
      obtain ⟨v16, ev16, hq⟩ := bd hq
      refine E_gR d_Mo_won_113 lk_Mo_125 rfl ev16 ?_
      refine E_iln 2 d_Mo_won_116 rfl rfl ?_
      obtain ⟨v17, ev17, hq⟩ := bd hq
      refine E_ra d_Mo_won_117 ev17 ?_
      refine E_isub d_Mo_won_118 ?_
      obtain ⟨q19, eq19, hq⟩ := bd hq
      obtain ⟨p18, ep18, hq⟩ := bd hq
      refine E_cV2I d_Mo_won_119 ck_Mo_339 rfl rfl eq19 (Nat.le_of_ble_eq_true rfl) (Nat.le_of_ble_eq_true rfl) (t_Mo_greater (by omega) ep18) ?_
      obtain ⟨h20, eh20, hq⟩ := bd hq
      refine E_wa d_Mo_won_122 eh20 ?_
      refine E_inc (v := 1) (ls' := [(3, .int (x3 + 1)), (0, .ref a0), (1, .int x1), (2, .int x2)]) 3 d_Mo_won_123 rfl (Nat.le_of_ble_eq_true rfl) (by decide) rfl ?_
      refine E_goto (tgt := 58) d_Mo_won_126 (by decide) ?_
      exact E_sub (ks := [1, 2, 3, 0]) rfl <| ih _ _ _ _ _ _ hq
def f_Mo_won_48 : Nat → Nat → Int32 → Int32 → PH → Option (Int32 × PH)
  | 0, _, _, _, _ => none
  | n + 1, a0, x1, x2, h =>
    (ldI h 9 a0 63).bind fun v1 =>
    if v1 ≤ x2 then
      f_Mo_won_139 FU a0 x1 0 0 h
    else
      f_Mo_won_58 (fun a0 x1 x2 h => f_Mo_won_48 n a0 x1 x2 h) FU a0 x1 x2 1 h
theorem t_Mo_won_48 {d : Nat} (hd : 1 ≤ d) : ∀ (n : Nat) (a0 : Nat) (x1 : Int32) (x2 : Int32) (h : PH) (r : Int32 × PH), f_Mo_won_48 n a0 x1 x2 h = some r → E d 0 0 m_Mo_won 48 [(0, .ref a0), (1, .int x1), (2, .int x2)] [] h (PI r) := by
  intro n
  induction n with
  | zero => intro a0 x1 x2 h r hq; rw [f_Mo_won_48] at hq; cases hq
  | succ n ih =>
    intro a0 x1 x2 h r hq
    rw [f_Mo_won_48] at hq
    obtain ⟨d, rfl⟩ : ∃ e, d = e + 1 := ⟨d - 1, by omega⟩
    refine E_iln 2 d_Mo_won_48 rfl rfl ?_
    refine E_aln 0 d_Mo_won_49 rfl rfl ?_
    obtain ⟨v1, ev1, hq⟩ := bd hq
    refine E_gI d_Mo_won_50 lk_Mo_468 rfl ev1 ?_
    refine E_jge (tgt := 135) d_Mo_won_53 (by decide) (fun c => ?_) (fun c => ?_)
    · rw [if_pos c] at hq
      refine E_ic (v := 0) d_Mo_won_135 (by decide) ?_
      refine E_isn (ls' := [(2, .int 0), (0, .ref a0), (1, .int x1)]) d_Mo_won_136 (Nat.le_of_ble_eq_true rfl) rfl ?_
      refine E_ic (v := 0) d_Mo_won_137 (by decide) ?_
      refine E_isn (ls' := [(3, .int 0), (2, .int 0), (0, .ref a0), (1, .int x1)]) d_Mo_won_138 (Nat.le_of_ble_eq_true rfl) rfl ?_
      exact E_sub (ks := [2, 3, 1, 0]) rfl <| t_Mo_won_139 (by omega) _ _ _ _ _ _ _ hq
    · rw [if_neg c] at hq
      refine E_ic (v := 1) d_Mo_won_56 (by decide) ?_
      refine E_isn (ls' := [(3, .int 1), (0, .ref a0), (1, .int x1), (2, .int x2)]) d_Mo_won_57 (Nat.le_of_ble_eq_true rfl) rfl ?_
      exact E_sub (ks := [1, 2, 3, 0]) rfl <| t_Mo_won_58 (by omega) ih _ _ _ _ _ _ _ hq
def f_Mo_won_19 : Nat → Nat → Int32 → Int32 → PH → Option (Int32 × PH)
  | 0, _, _, _, _ => none
  | n + 1, a0, x1, x2, h =>
    if 4 ≤ x2 then
      f_Mo_won_48 FU a0 x1 0 h
    else
      (ldR h 9 a0 65).bind fun v1 =>
      (wrA h v1 x2 0).bind fun h2 =>
      (ldR h2 9 a0 66).bind fun v3 =>
      (wrA h2 v3 x2 (-100000000)).bind fun h4 =>
      f_Mo_won_19 n a0 x1 (x2 + 1) h4
theorem t_Mo_won_19 {d : Nat} (hd : 1 ≤ d) : ∀ (n : Nat) (a0 : Nat) (x1 : Int32) (x2 : Int32) (h : PH) (r : Int32 × PH), f_Mo_won_19 n a0 x1 x2 h = some r → E d 0 0 m_Mo_won 19 [(0, .ref a0), (1, .int x1), (2, .int x2)] [] h (PI r) := by
  intro n
  induction n with
  | zero => intro a0 x1 x2 h r hq; rw [f_Mo_won_19] at hq; cases hq
  | succ n ih =>
    intro a0 x1 x2 h r hq
    rw [f_Mo_won_19] at hq
    obtain ⟨d, rfl⟩ : ∃ e, d = e + 1 := ⟨d - 1, by omega⟩
    refine E_iln 2 d_Mo_won_19 rfl rfl ?_
    refine E_ic (v := 4) d_Mo_won_20 (by decide) ?_
    refine E_jge (tgt := 46) d_Mo_won_21 (by decide) (fun c => ?_) (fun c => ?_)
    · rw [if_pos c] at hq
      refine E_ic (v := 0) d_Mo_won_46 (by decide) ?_
      refine E_isn (ls' := [(2, .int 0), (0, .ref a0), (1, .int x1)]) d_Mo_won_47 (Nat.le_of_ble_eq_true rfl) rfl ?_
      exact E_sub (ks := [1, 2, 0]) rfl <| t_Mo_won_48 (by omega) _ _ _ _ _ _ hq
    · rw [if_neg c] at hq
      refine E_aln 0 d_Mo_won_24 rfl rfl ?_
      obtain ⟨v1, ev1, hq⟩ := bd hq
      refine E_gR d_Mo_won_25 lk_Mo_128 rfl ev1 ?_
      refine E_iln 2 d_Mo_won_28 rfl rfl ?_
      refine E_ic (v := 0) d_Mo_won_29 (by decide) ?_
      obtain ⟨h2, eh2, hq⟩ := bd hq
      refine E_wa d_Mo_won_30 eh2 ?_
      refine E_aln 0 d_Mo_won_31 rfl rfl ?_
      obtain ⟨v3, ev3, hq⟩ := bd hq
      refine E_gR d_Mo_won_32 lk_Mo_131 rfl ev3 ?_
      refine E_iln 2 d_Mo_won_35 rfl rfl ?_
      refine E_ldcw d_Mo_won_36 kc_Mo_471 ?_
      obtain ⟨h4, eh4, hq⟩ := bd hq
      refine E_wa d_Mo_won_39 eh4 ?_
      refine E_inc (v := 1) (ls' := [(2, .int (x2 + 1)), (0, .ref a0), (1, .int x1)]) 2 d_Mo_won_40 rfl (Nat.le_of_ble_eq_true rfl) (by decide) rfl ?_
      refine E_goto (tgt := 19) d_Mo_won_43 (by decide) ?_
      exact E_sub (ks := [1, 2, 0]) rfl <| ih _ _ _ _ _ hq
def f_Mo_won (a0 : Nat) (x1 : Int32) (h : PH) : Option (Int32 × PH) :=
  (stI h 9 a0 0 0).bind fun h1 =>
  (isO h1 9 a0).bind fun _ =>
  (f_Mo_isIn a0 x1 1 3 h1).bind fun p2 =>
  if p2.1 = 0 then
    some ((-1), p2.2)
  else
    f_Mo_won_19 FU a0 x1 0 p2.2
theorem t_Mo_won {d : Nat} (hd : 1 ≤ d) {a0 : Nat} {x1 : Int32} {h : PH} {r : Int32 × PH} (hq : f_Mo_won a0 x1 h = some r) : E d 0 0 m_Mo_won 0 [(0, .ref a0), (1, .int x1)] [] h (PI r) := by
  unfold f_Mo_won at hq
  obtain ⟨d, rfl⟩ : ∃ e, d = e + 1 := ⟨d - 1, by omega⟩
  refine E_aln 0 d_Mo_won_0 rfl rfl ?_
  refine E_ic (v := 0) d_Mo_won_1 (by decide) ?_
  obtain ⟨h1, eh1, hq⟩ := bd hq
  refine E_pI d_Mo_won_2 lp_Mo_m_140 rfl eh1 ?_
  refine E_aln 0 d_Mo_won_5 rfl rfl ?_
  refine E_iln 1 d_Mo_won_6 rfl rfl ?_
  refine E_ic (v := 1) d_Mo_won_7 (by decide) ?_
  refine E_ic (v := 3) d_Mo_won_8 (by decide) ?_
  obtain ⟨q3, eq3, hq⟩ := bd hq
  obtain ⟨p2, ep2, hq⟩ := bd hq
  refine E_cV3I d_Mo_won_9 ck_Mo_162 rfl rfl eq3 (Nat.le_of_ble_eq_true rfl) (Nat.le_of_ble_eq_true rfl) (t_Mo_isIn (by omega) ep2) ?_
  refine E_zne (tgt := 17) d_Mo_won_12 (by decide) (fun c => ?_) (fun c => ?_)
  · rw [if_neg c] at hq
    refine E_ic (v := 0) d_Mo_won_17 (by decide) ?_
    refine E_isn (ls' := [(2, .int 0), (0, .ref a0), (1, .int x1)]) d_Mo_won_18 (Nat.le_of_ble_eq_true rfl) rfl ?_
    exact E_sub (ks := [1, 2, 0]) rfl <| t_Mo_won_19 (by omega) _ _ _ _ _ _ hq
  · rw [if_pos c] at hq
    refine E_ic (v := (-1)) d_Mo_won_15 (by decide) ?_
    exact E_rI d_Mo_won_16 rfl hq
def f_Mo_ledger_33 (a0 : Nat) (x1 : Int32) (x2 : Int32) (s0 : Int32) (s1 : Int32) (s2 : Int32) (s3 : Nat) (h : PH) : Option (Int32 × PH) :=
  (isO h 9 s3).bind fun _ =>
  (f_Mo_isIn s3 s2 s1 s0 h).bind fun p1 =>
  if p1.1 = 0 then
    rtZ 0 p1.2
  else
    (ldR p1.2 9 a0 67).bind fun v3 =>
    (wrA p1.2 v3 x1 x2).bind fun h4 =>
    rtZ 1 h4
theorem t_Mo_ledger_33 {d : Nat} (hd : 1 ≤ d) {a0 : Nat} {x1 : Int32} {x2 : Int32} {s0 : Int32} {s1 : Int32} {s2 : Int32} {s3 : Nat} {h : PH} {r : Int32 × PH} (hq : f_Mo_ledger_33 a0 x1 x2 s0 s1 s2 s3 h = some r) : E d 0 0 m_Mo_ledger 33 [(0, .ref a0), (1, .int x1), (2, .int x2)] [.int s0, .int s1, .int s2, .ref s3] h (PI r) := by
  unfold f_Mo_ledger_33 at hq
  obtain ⟨d, rfl⟩ : ∃ e, d = e + 1 := ⟨d - 1, by omega⟩
  obtain ⟨q2, eq2, hq⟩ := bd hq
  obtain ⟨p1, ep1, hq⟩ := bd hq
  refine E_cV3I d_Mo_ledger_33 ck_Mo_162 rfl rfl eq2 (Nat.le_of_ble_eq_true rfl) (Nat.le_of_ble_eq_true rfl) (t_Mo_isIn (by omega) ep1) ?_
  refine E_zne (tgt := 41) d_Mo_ledger_36 (by decide) (fun c => ?_) (fun c => ?_)
  · rw [if_neg c] at hq
    refine E_aln 0 d_Mo_ledger_41 rfl rfl ?_
    obtain ⟨v3, ev3, hq⟩ := bd hq
    refine E_gR d_Mo_ledger_42 lk_Mo_134 rfl ev3 ?_
    refine E_iln 1 d_Mo_ledger_45 rfl rfl ?_
    refine E_iln 2 d_Mo_ledger_46 rfl rfl ?_
    obtain ⟨h4, eh4, hq⟩ := bd hq
    refine E_wa d_Mo_ledger_47 eh4 ?_
    refine E_ic (v := 1) d_Mo_ledger_48 (by decide) ?_
    exact E_rZ d_Mo_ledger_49 rfl hq
  · rw [if_pos c] at hq
    refine E_ic (v := 0) d_Mo_ledger_39 (by decide) ?_
    exact E_rZ d_Mo_ledger_40 rfl hq
def f_Mo_ledger (a0 : Nat) (x1 : Int32) (x2 : Int32) (h : PH) : Option (Int32 × PH) :=
  (stI h 9 a0 0 0).bind fun h1 =>
  (isO h1 9 a0).bind fun _ =>
  (f_Mo_isIn a0 x1 0 23 h1).bind fun p2 =>
  if p2.1 = 0 then
    rtZ 0 p2.2
  else
    if 16 ≤ x1 then
      f_Mo_ledger_33 a0 x1 x2 999 0 x2 a0 p2.2
    else
      f_Mo_ledger_33 a0 x1 x2 99 0 x2 a0 p2.2
theorem t_Mo_ledger {d : Nat} (hd : 1 ≤ d) {a0 : Nat} {x1 : Int32} {x2 : Int32} {h : PH} {r : Int32 × PH} (hq : f_Mo_ledger a0 x1 x2 h = some r) : E d 0 0 m_Mo_ledger 0 [(0, .ref a0), (1, .int x1), (2, .int x2)] [] h (PI r) := by
  unfold f_Mo_ledger at hq
  obtain ⟨d, rfl⟩ : ∃ e, d = e + 1 := ⟨d - 1, by omega⟩
  refine E_aln 0 d_Mo_ledger_0 rfl rfl ?_
  refine E_ic (v := 0) d_Mo_ledger_1 (by decide) ?_
  obtain ⟨h1, eh1, hq⟩ := bd hq
  refine E_pI d_Mo_ledger_2 lp_Mo_m_140 rfl eh1 ?_
  refine E_aln 0 d_Mo_ledger_5 rfl rfl ?_
  refine E_iln 1 d_Mo_ledger_6 rfl rfl ?_
  refine E_ic (v := 0) d_Mo_ledger_7 (by decide) ?_
  refine E_bi (v := 23) d_Mo_ledger_8 (by decide) ?_
  obtain ⟨q3, eq3, hq⟩ := bd hq
  obtain ⟨p2, ep2, hq⟩ := bd hq
  refine E_cV3I d_Mo_ledger_10 ck_Mo_162 rfl rfl eq3 (Nat.le_of_ble_eq_true rfl) (Nat.le_of_ble_eq_true rfl) (t_Mo_isIn (by omega) ep2) ?_
  refine E_zeq (tgt := 39) d_Mo_ledger_13 (by decide) (fun c => ?_) (fun c => ?_)
  · rw [if_pos c] at hq
    refine E_ic (v := 0) d_Mo_ledger_39 (by decide) ?_
    exact E_rZ d_Mo_ledger_40 rfl hq
  · rw [if_neg c] at hq
    refine E_aln 0 d_Mo_ledger_16 rfl rfl ?_
    refine E_iln 2 d_Mo_ledger_17 rfl rfl ?_
    refine E_ic (v := 0) d_Mo_ledger_18 (by decide) ?_
    refine E_iln 1 d_Mo_ledger_19 rfl rfl ?_
    refine E_bi (v := 16) d_Mo_ledger_20 (by decide) ?_
    refine E_jge (tgt := 30) d_Mo_ledger_22 (by decide) (fun c => ?_) (fun c => ?_)
    · rw [if_pos c] at hq
      refine E_si (v := 999) d_Mo_ledger_30 (by decide) ?_
      exact t_Mo_ledger_33 (by omega) hq
    · rw [if_neg c] at hq
      refine E_bi (v := 99) d_Mo_ledger_25 (by decide) ?_
      refine E_goto (tgt := 33) d_Mo_ledger_27 (by decide) ?_
      exact t_Mo_ledger_33 (by omega) hq
def f_Mo_offOf_60 (x1 : Int32) (s0 : Int32) (s1 : Nat) (s2 : Int32) (h : PH) : Option (Int32 × PH) :=
  (rdA h s1 (s0 + x1)).bind fun v1 =>
  some ((s2 - v1), h)
theorem t_Mo_offOf_60 {d : Nat} (hd : 0 ≤ d) {x1 : Int32} {s0 : Int32} {s1 : Nat} {s2 : Int32} {h : PH} {r : Int32 × PH} (hq : f_Mo_offOf_60 x1 s0 s1 s2 h = some r) : E d 0 0 m_Mo_offOf 60 [(1, .int x1)] [.int s0, .ref s1, .int s2] h (PI r) := by
  unfold f_Mo_offOf_60 at hq
  refine E_iln 0 d_Mo_offOf_60 rfl rfl ?_
  refine E_iadd d_Mo_offOf_61 ?_
  obtain ⟨v1, ev1, hq⟩ := bd hq
  refine E_ra d_Mo_offOf_62 ev1 ?_
  refine E_isub d_Mo_offOf_63 ?_
  exact E_rI d_Mo_offOf_64 rfl hq
def f_Mo_offOf_35 (k5 : Nat → Int32 → Int32 → Int32 → Int32 → PH → Option (Int32 × PH)) (a0 : Nat) (x1 : Int32) (x2 : Int32) (x4 : Int32) (s0 : Int32) (s1 : Nat) (s2 : Int32) (h : PH) : Option (Int32 × PH) :=
  (rdA h s1 s0).bind fun v1 =>
  k5 a0 x1 x2 (s2 + v1) (x4 + 1) h
theorem t_Mo_offOf_35 {d : Nat} (hd : 0 ≤ d) {k5 : Nat → Int32 → Int32 → Int32 → Int32 → PH → Option (Int32 × PH)} (hk5 : ∀ (a0 : Nat) (x1 : Int32) (x2 : Int32) (x3 : Int32) (x4 : Int32) (h : PH) (r : Int32 × PH), k5 a0 x1 x2 x3 x4 h = some r → E d 0 0 m_Mo_offOf 5 [(0, .ref a0), (1, .int x1), (2, .int x2), (3, .int x3), (4, .int x4)] [] h (PI r)) {a0 : Nat} {x1 : Int32} {x2 : Int32} {x4 : Int32} {s0 : Int32} {s1 : Nat} {s2 : Int32} {h : PH} {r : Int32 × PH} (hq : f_Mo_offOf_35 k5 a0 x1 x2 x4 s0 s1 s2 h = some r) : E d 0 0 m_Mo_offOf 35 [(0, .ref a0), (1, .int x1), (2, .int x2), (4, .int x4)] [.int s0, .ref s1, .int s2] h (PI r) := by
  unfold f_Mo_offOf_35 at hq
  obtain ⟨v1, ev1, hq⟩ := bd hq
  refine E_ra d_Mo_offOf_35 ev1 ?_
  refine E_iadd d_Mo_offOf_36 ?_
  refine E_isn (ls' := [(3, .int (s2 + v1)), (0, .ref a0), (1, .int x1), (2, .int x2), (4, .int x4)]) d_Mo_offOf_37 (Nat.le_of_ble_eq_true rfl) rfl ?_
  refine E_inc (v := 1) (ls' := [(4, .int (x4 + 1)), (3, .int (s2 + v1)), (0, .ref a0), (1, .int x1), (2, .int x2)]) 4 d_Mo_offOf_38 rfl (Nat.le_of_ble_eq_true rfl) (by decide) rfl ?_
  refine E_goto (tgt := 5) d_Mo_offOf_41 (by decide) ?_
  exact E_sub (ks := [2, 3, 4, 1, 0]) rfl <| hk5 _ _ _ _ _ _ _ hq
def f_Mo_offOf_5 : Nat → Nat → Int32 → Int32 → Int32 → Int32 → PH → Option (Int32 × PH)
  | 0, _, _, _, _, _, _ => none
  | n + 1, a0, x1, x2, x3, x4, h =>
    if 4 ≤ x4 then
      (ldR h 9 a0 67).bind fun v1 =>
      if x2 = 0 then
        f_Mo_offOf_60 x1 16 v1 x3 h
      else
        f_Mo_offOf_60 x1 20 v1 x3 h
    else
      (ldR h 9 a0 67).bind fun v2 =>
      if x2 = 0 then
        f_Mo_offOf_35 (fun a0 x1 x2 x3 x4 h => f_Mo_offOf_5 n a0 x1 x2 x3 x4 h) a0 x1 x2 x4 ((4 * x1) + x4) v2 x3 h
      else
        f_Mo_offOf_35 (fun a0 x1 x2 x3 x4 h => f_Mo_offOf_5 n a0 x1 x2 x3 x4 h) a0 x1 x2 x4 ((4 * x4) + x1) v2 x3 h
theorem t_Mo_offOf_5 {d : Nat} (hd : 0 ≤ d) : ∀ (n : Nat) (a0 : Nat) (x1 : Int32) (x2 : Int32) (x3 : Int32) (x4 : Int32) (h : PH) (r : Int32 × PH), f_Mo_offOf_5 n a0 x1 x2 x3 x4 h = some r → E d 0 0 m_Mo_offOf 5 [(0, .ref a0), (1, .int x1), (2, .int x2), (3, .int x3), (4, .int x4)] [] h (PI r) := by
  intro n
  induction n with
  | zero => intro a0 x1 x2 x3 x4 h r hq; rw [f_Mo_offOf_5] at hq; cases hq
  | succ n ih =>
    intro a0 x1 x2 x3 x4 h r hq
    rw [f_Mo_offOf_5] at hq
    refine E_il 4 d_Mo_offOf_5 rfl ?_
    refine E_ic (v := 4) d_Mo_offOf_7 (by decide) ?_
    refine E_jge (tgt := 44) d_Mo_offOf_8 (by decide) (fun c => ?_) (fun c => ?_)
    · rw [if_pos c] at hq
      refine E_iln 3 d_Mo_offOf_44 rfl rfl ?_
      refine E_aln 0 d_Mo_offOf_45 rfl rfl ?_
      obtain ⟨v1, ev1, hq⟩ := bd hq
      refine E_gR d_Mo_offOf_46 lk_Mo_134 rfl ev1 ?_
      refine E_iln 2 d_Mo_offOf_49 rfl rfl ?_
      refine E_zeq (tgt := 58) d_Mo_offOf_50 (by decide) (fun c => ?_) (fun c => ?_)
      · rw [if_pos c] at hq
        refine E_bi (v := 16) d_Mo_offOf_58 (by decide) ?_
        exact E_sub (ks := [1]) rfl <| t_Mo_offOf_60 (by omega) hq
      · rw [if_neg c] at hq
        refine E_bi (v := 20) d_Mo_offOf_53 (by decide) ?_
        refine E_goto (tgt := 60) d_Mo_offOf_55 (by decide) ?_
        exact E_sub (ks := [1]) rfl <| t_Mo_offOf_60 (by omega) hq
    · rw [if_neg c] at hq
      refine E_iln 3 d_Mo_offOf_11 rfl rfl ?_
      refine E_aln 0 d_Mo_offOf_12 rfl rfl ?_
      obtain ⟨v2, ev2, hq⟩ := bd hq
      refine E_gR d_Mo_offOf_13 lk_Mo_134 rfl ev2 ?_
      refine E_iln 2 d_Mo_offOf_16 rfl rfl ?_
      refine E_zeq (tgt := 29) d_Mo_offOf_17 (by decide) (fun c => ?_) (fun c => ?_)
      · rw [if_pos c] at hq
        refine E_ic (v := 4) d_Mo_offOf_29 (by decide) ?_
        refine E_iln 1 d_Mo_offOf_30 rfl rfl ?_
        refine E_imul d_Mo_offOf_31 ?_
        refine E_il 4 d_Mo_offOf_32 rfl ?_
        refine E_iadd d_Mo_offOf_34 ?_
        exact E_sub (ks := [0, 1, 2, 4]) rfl <| t_Mo_offOf_35 (by omega) ih hq
      · rw [if_neg c] at hq
        refine E_ic (v := 4) d_Mo_offOf_20 (by decide) ?_
        refine E_il 4 d_Mo_offOf_21 rfl ?_
        refine E_imul d_Mo_offOf_23 ?_
        refine E_iln 1 d_Mo_offOf_24 rfl rfl ?_
        refine E_iadd d_Mo_offOf_25 ?_
        refine E_goto (tgt := 35) d_Mo_offOf_26 (by decide) ?_
        exact E_sub (ks := [0, 1, 2, 4]) rfl <| t_Mo_offOf_35 (by omega) ih hq
def f_Mo_offOf (a0 : Nat) (x1 : Int32) (x2 : Int32) (h : PH) : Option (Int32 × PH) :=
  f_Mo_offOf_5 FU a0 x1 x2 0 0 h
theorem t_Mo_offOf {d : Nat} (hd : 0 ≤ d) {a0 : Nat} {x1 : Int32} {x2 : Int32} {h : PH} {r : Int32 × PH} (hq : f_Mo_offOf a0 x1 x2 h = some r) : E d 0 0 m_Mo_offOf 0 [(0, .ref a0), (1, .int x1), (2, .int x2)] [] h (PI r) := by
  unfold f_Mo_offOf at hq
  refine E_ic (v := 0) d_Mo_offOf_0 (by decide) ?_
  refine E_isn (ls' := [(3, .int 0), (0, .ref a0), (1, .int x1), (2, .int x2)]) d_Mo_offOf_1 (Nat.le_of_ble_eq_true rfl) rfl ?_
  refine E_ic (v := 0) d_Mo_offOf_2 (by decide) ?_
  refine E_is (ls' := [(4, .int 0), (3, .int 0), (0, .ref a0), (1, .int x1), (2, .int x2)]) d_Mo_offOf_3 (Nat.le_of_ble_eq_true rfl) rfl ?_
  exact E_sub (ks := [2, 3, 4, 1, 0]) rfl <| t_Mo_offOf_5 (by omega) _ _ _ _ _ _ _ _ hq
def f_Mo_wrongLine_7 : Nat → Nat → Int32 → Int32 → Int32 → Int32 → PH → Option (Int32 × PH)
  | 0, _, _, _, _, _, _ => none
  | n + 1, a0, x1, x2, x3, x4, h =>
    if 4 ≤ x4 then
      if x3 = 1 then
        some (x2, h)
      else
        some ((-1), h)
    else
      (isO h 9 a0).bind fun _ =>
      (f_Mo_offOf a0 x4 x1 h).bind fun p1 =>
      if p1.1 = 0 then
        f_Mo_wrongLine_7 n a0 x1 x2 x3 (x4 + 1) p1.2
      else
        f_Mo_wrongLine_7 n a0 x1 x4 (x3 + 1) (x4 + 1) p1.2
theorem t_Mo_wrongLine_7 {d : Nat} (hd : 1 ≤ d) : ∀ (n : Nat) (a0 : Nat) (x1 : Int32) (x2 : Int32) (x3 : Int32) (x4 : Int32) (h : PH) (r : Int32 × PH), f_Mo_wrongLine_7 n a0 x1 x2 x3 x4 h = some r → E d 0 0 m_Mo_wrongLine 7 [(0, .ref a0), (1, .int x1), (2, .int x2), (3, .int x3), (4, .int x4)] [] h (PI r) := by
  intro n
  induction n with
  | zero => intro a0 x1 x2 x3 x4 h r hq; rw [f_Mo_wrongLine_7] at hq; cases hq
  | succ n ih =>
    intro a0 x1 x2 x3 x4 h r hq
    rw [f_Mo_wrongLine_7] at hq
    obtain ⟨d, rfl⟩ : ∃ e, d = e + 1 := ⟨d - 1, by omega⟩
    refine E_il 4 d_Mo_wrongLine_7 rfl ?_
    refine E_ic (v := 4) d_Mo_wrongLine_9 (by decide) ?_
    refine E_jge (tgt := 39) d_Mo_wrongLine_10 (by decide) (fun c => ?_) (fun c => ?_)
    · rw [if_pos c] at hq
      refine E_iln 3 d_Mo_wrongLine_39 rfl rfl ?_
      refine E_ic (v := 1) d_Mo_wrongLine_40 (by decide) ?_
      refine E_jne (tgt := 48) d_Mo_wrongLine_41 (by decide) (fun c => ?_) (fun c => ?_)
      · rw [if_neg c] at hq
        refine E_ic (v := (-1)) d_Mo_wrongLine_48 (by decide) ?_
        exact E_rI d_Mo_wrongLine_49 rfl hq
      · rw [if_pos c] at hq
        refine E_iln 2 d_Mo_wrongLine_44 rfl rfl ?_
        refine E_goto (tgt := 49) d_Mo_wrongLine_45 (by decide) ?_
        exact E_rI d_Mo_wrongLine_49 rfl hq
    · rw [if_neg c] at hq
      refine E_aln 0 d_Mo_wrongLine_13 rfl rfl ?_
      refine E_il 4 d_Mo_wrongLine_14 rfl ?_
      refine E_iln 1 d_Mo_wrongLine_16 rfl rfl ?_
      obtain ⟨q2, eq2, hq⟩ := bd hq
      obtain ⟨p1, ep1, hq⟩ := bd hq
      refine E_cV2I d_Mo_wrongLine_17 ck_Mo_472 rfl rfl eq2 (Nat.le_of_ble_eq_true rfl) (Nat.le_of_ble_eq_true rfl) (t_Mo_offOf (by omega) ep1) ?_
      refine E_zne (tgt := 26) d_Mo_wrongLine_20 (by decide) (fun c => ?_) (fun c => ?_)
      · rw [if_neg c] at hq
        refine E_il 4 d_Mo_wrongLine_26 rfl ?_
        refine E_isn (ls' := [(2, .int x4), (0, .ref a0), (1, .int x1), (3, .int x3), (4, .int x4)]) d_Mo_wrongLine_28 (Nat.le_of_ble_eq_true rfl) rfl ?_
        refine E_iln 3 d_Mo_wrongLine_29 rfl rfl ?_
        refine E_ic (v := 1) d_Mo_wrongLine_30 (by decide) ?_
        refine E_iadd d_Mo_wrongLine_31 ?_
        refine E_isn (ls' := [(3, .int (x3 + 1)), (2, .int x4), (0, .ref a0), (1, .int x1), (4, .int x4)]) d_Mo_wrongLine_32 (Nat.le_of_ble_eq_true rfl) rfl ?_
        refine E_inc (v := 1) (ls' := [(4, .int (x4 + 1)), (3, .int (x3 + 1)), (2, .int x4), (0, .ref a0), (1, .int x1)]) 4 d_Mo_wrongLine_33 rfl (Nat.le_of_ble_eq_true rfl) (by decide) rfl ?_
        refine E_goto (tgt := 7) d_Mo_wrongLine_36 (by decide) ?_
        exact E_sub (ks := [3, 4, 2, 1, 0]) rfl <| ih _ _ _ _ _ _ _ hq
      · rw [if_pos c] at hq
        refine E_goto (tgt := 33) d_Mo_wrongLine_23 (by decide) ?_
        refine E_inc (v := 1) (ls' := [(4, .int (x4 + 1)), (0, .ref a0), (1, .int x1), (2, .int x2), (3, .int x3)]) 4 d_Mo_wrongLine_33 rfl (Nat.le_of_ble_eq_true rfl) (by decide) rfl ?_
        refine E_goto (tgt := 7) d_Mo_wrongLine_36 (by decide) ?_
        exact E_sub (ks := [1, 2, 3, 4, 0]) rfl <| ih _ _ _ _ _ _ _ hq
def f_Mo_wrongLine (a0 : Nat) (x1 : Int32) (h : PH) : Option (Int32 × PH) :=
  f_Mo_wrongLine_7 FU a0 x1 (-1) 0 0 h
theorem t_Mo_wrongLine {d : Nat} (hd : 1 ≤ d) {a0 : Nat} {x1 : Int32} {h : PH} {r : Int32 × PH} (hq : f_Mo_wrongLine a0 x1 h = some r) : E d 0 0 m_Mo_wrongLine 0 [(0, .ref a0), (1, .int x1)] [] h (PI r) := by
  unfold f_Mo_wrongLine at hq
  obtain ⟨d, rfl⟩ : ∃ e, d = e + 1 := ⟨d - 1, by omega⟩
  refine E_ic (v := (-1)) d_Mo_wrongLine_0 (by decide) ?_
  refine E_isn (ls' := [(2, .int (-1)), (0, .ref a0), (1, .int x1)]) d_Mo_wrongLine_1 (Nat.le_of_ble_eq_true rfl) rfl ?_
  refine E_ic (v := 0) d_Mo_wrongLine_2 (by decide) ?_
  refine E_isn (ls' := [(3, .int 0), (2, .int (-1)), (0, .ref a0), (1, .int x1)]) d_Mo_wrongLine_3 (Nat.le_of_ble_eq_true rfl) rfl ?_
  refine E_ic (v := 0) d_Mo_wrongLine_4 (by decide) ?_
  refine E_is (ls' := [(4, .int 0), (3, .int 0), (2, .int (-1)), (0, .ref a0), (1, .int x1)]) d_Mo_wrongLine_5 (Nat.le_of_ble_eq_true rfl) rfl ?_
  exact E_sub (ks := [3, 4, 2, 1, 0]) rfl <| t_Mo_wrongLine_7 (by omega) _ _ _ _ _ _ _ _ hq
def f_Mo_altered_52 (h : PH) : Option (Int32 × PH) :=
  some ((-10000), h)
theorem t_Mo_altered_52 {d : Nat} (hd : 2 ≤ d) {h : PH} {r : Int32 × PH} (hq : f_Mo_altered_52 h = some r) : E d 0 0 m_Mo_altered 52 [] [] h (PI r) := by
  unfold f_Mo_altered_52 at hq
  obtain ⟨d, rfl⟩ : ∃ e, d = e + 1 := ⟨d - 1, by omega⟩
  refine E_si (v := (-10000)) d_Mo_altered_52 (by decide) ?_
  exact E_rI d_Mo_altered_55 rfl hq
def f_Mo_altered (a0 : Nat) (x1 : Int32) (h : PH) : Option (Int32 × PH) :=
  (stI h 9 a0 0 0).bind fun h1 =>
  (isO h1 9 a0).bind fun _ =>
  (f_Mo_wrongLine a0 0 h1).bind fun p2 =>
  (isO p2.2 9 a0).bind fun _ =>
  (f_Mo_wrongLine a0 1 p2.2).bind fun p4 =>
  (isO p4.2 9 a0).bind fun _ =>
  (f_Mo_isIn a0 x1 0 1 p4.2).bind fun p6 =>
  if p6.1 = 0 then
    f_Mo_altered_52  p6.2
  else
    if p2.1 = (-1) then
      f_Mo_altered_52  p6.2
    else
      if p4.1 = (-1) then
        f_Mo_altered_52  p6.2
      else
        (isO p6.2 9 a0).bind fun _ =>
        (f_Mo_offOf a0 p2.1 0 p6.2).bind fun p8 =>
        (isO p8.2 9 a0).bind fun _ =>
        (f_Mo_offOf a0 p4.1 1 p8.2).bind fun p10 =>
        if p8.1 = p10.1 then
          if x1 = 0 then
            some (((4 * p2.1) + p4.1), p10.2)
          else
            (isO p10.2 9 a0).bind fun _ =>
            (f_Mo_offOf a0 p2.1 0 p10.2).bind fun p12 =>
            some (p12.1, p12.2)
        else
          f_Mo_altered_52  p10.2
theorem t_Mo_altered {d : Nat} (hd : 2 ≤ d) {a0 : Nat} {x1 : Int32} {h : PH} {r : Int32 × PH} (hq : f_Mo_altered a0 x1 h = some r) : E d 0 0 m_Mo_altered 0 [(0, .ref a0), (1, .int x1)] [] h (PI r) := by
  unfold f_Mo_altered at hq
  obtain ⟨d, rfl⟩ : ∃ e, d = e + 1 := ⟨d - 1, by omega⟩
  refine E_aln 0 d_Mo_altered_0 rfl rfl ?_
  refine E_ic (v := 0) d_Mo_altered_1 (by decide) ?_
  obtain ⟨h1, eh1, hq⟩ := bd hq
  refine E_pI d_Mo_altered_2 lp_Mo_m_140 rfl eh1 ?_
  refine E_aln 0 d_Mo_altered_5 rfl rfl ?_
  refine E_ic (v := 0) d_Mo_altered_6 (by decide) ?_
  obtain ⟨q3, eq3, hq⟩ := bd hq
  obtain ⟨p2, ep2, hq⟩ := bd hq
  refine E_cV1I d_Mo_altered_7 ck_Mo_476 rfl rfl eq3 (Nat.le_of_ble_eq_true rfl) (Nat.le_of_ble_eq_true rfl) (t_Mo_wrongLine (by omega) ep2) ?_
  refine E_isn (ls' := [(2, .int p2.1), (0, .ref a0), (1, .int x1)]) d_Mo_altered_10 (Nat.le_of_ble_eq_true rfl) rfl ?_
  refine E_aln 1 d_Mo_altered_11 rfl rfl ?_
  refine E_ic (v := 1) d_Mo_altered_12 (by decide) ?_
  obtain ⟨q5, eq5, hq⟩ := bd hq
  obtain ⟨p4, ep4, hq⟩ := bd hq
  refine E_cV1I d_Mo_altered_13 ck_Mo_476 rfl rfl eq5 (Nat.le_of_ble_eq_true rfl) (Nat.le_of_ble_eq_true rfl) (t_Mo_wrongLine (by omega) ep4) ?_
  refine E_isn (ls' := [(3, .int p4.1), (2, .int p2.1), (0, .ref a0), (1, .int x1)]) d_Mo_altered_16 (Nat.le_of_ble_eq_true rfl) rfl ?_
  refine E_aln 2 d_Mo_altered_17 rfl rfl ?_
  refine E_iln 3 d_Mo_altered_18 rfl rfl ?_
  refine E_ic (v := 0) d_Mo_altered_19 (by decide) ?_
  refine E_ic (v := 1) d_Mo_altered_20 (by decide) ?_
  obtain ⟨q7, eq7, hq⟩ := bd hq
  obtain ⟨p6, ep6, hq⟩ := bd hq
  refine E_cV3I d_Mo_altered_21 ck_Mo_162 rfl rfl eq7 (Nat.le_of_ble_eq_true rfl) (Nat.le_of_ble_eq_true rfl) (t_Mo_isIn (by omega) ep6) ?_
  refine E_zeq (tgt := 52) d_Mo_altered_24 (by decide) (fun c => ?_) (fun c => ?_)
  · rw [if_pos c] at hq
    exact E_sub (ks := []) rfl <| t_Mo_altered_52 (by omega) hq
  · rw [if_neg c] at hq
    refine E_iln 1 d_Mo_altered_27 rfl rfl ?_
    refine E_ic (v := (-1)) d_Mo_altered_28 (by decide) ?_
    refine E_jeq (tgt := 52) d_Mo_altered_29 (by decide) (fun c => ?_) (fun c => ?_)
    · rw [if_pos c] at hq
      exact E_sub (ks := []) rfl <| t_Mo_altered_52 (by omega) hq
    · rw [if_neg c] at hq
      refine E_iln 0 d_Mo_altered_32 rfl rfl ?_
      refine E_ic (v := (-1)) d_Mo_altered_33 (by decide) ?_
      refine E_jeq (tgt := 52) d_Mo_altered_34 (by decide) (fun c => ?_) (fun c => ?_)
      · rw [if_pos c] at hq
        exact E_sub (ks := []) rfl <| t_Mo_altered_52 (by omega) hq
      · rw [if_neg c] at hq
        refine E_aln 2 d_Mo_altered_37 rfl rfl ?_
        refine E_iln 1 d_Mo_altered_38 rfl rfl ?_
        refine E_ic (v := 0) d_Mo_altered_39 (by decide) ?_
        obtain ⟨q9, eq9, hq⟩ := bd hq
        obtain ⟨p8, ep8, hq⟩ := bd hq
        refine E_cV2I d_Mo_altered_40 ck_Mo_472 rfl rfl eq9 (Nat.le_of_ble_eq_true rfl) (Nat.le_of_ble_eq_true rfl) (t_Mo_offOf (by omega) ep8) ?_
        refine E_aln 2 d_Mo_altered_43 rfl rfl ?_
        refine E_iln 0 d_Mo_altered_44 rfl rfl ?_
        refine E_ic (v := 1) d_Mo_altered_45 (by decide) ?_
        obtain ⟨q11, eq11, hq⟩ := bd hq
        obtain ⟨p10, ep10, hq⟩ := bd hq
        refine E_cV2I d_Mo_altered_46 ck_Mo_472 rfl rfl eq11 (Nat.le_of_ble_eq_true rfl) (Nat.le_of_ble_eq_true rfl) (t_Mo_offOf (by omega) ep10) ?_
        refine E_jeq (tgt := 56) d_Mo_altered_49 (by decide) (fun c => ?_) (fun c => ?_)
        · rw [if_pos c] at hq
          refine E_iln 3 d_Mo_altered_56 rfl rfl ?_
          refine E_zne (tgt := 68) d_Mo_altered_57 (by decide) (fun c => ?_) (fun c => ?_)
          · rw [if_neg c] at hq
            refine E_aln 2 d_Mo_altered_68 rfl rfl ?_
            refine E_iln 1 d_Mo_altered_69 rfl rfl ?_
            refine E_ic (v := 0) d_Mo_altered_70 (by decide) ?_
            obtain ⟨q13, eq13, hq⟩ := bd hq
            obtain ⟨p12, ep12, hq⟩ := bd hq
            refine E_cV2I d_Mo_altered_71 ck_Mo_472 rfl rfl eq13 (Nat.le_of_ble_eq_true rfl) (Nat.le_of_ble_eq_true rfl) (t_Mo_offOf (by omega) ep12) ?_
            exact E_rI d_Mo_altered_74 rfl hq
          · rw [if_pos c] at hq
            refine E_ic (v := 4) d_Mo_altered_60 (by decide) ?_
            refine E_iln 1 d_Mo_altered_61 rfl rfl ?_
            refine E_imul d_Mo_altered_62 ?_
            refine E_iln 0 d_Mo_altered_63 rfl rfl ?_
            refine E_iadd d_Mo_altered_64 ?_
            refine E_goto (tgt := 74) d_Mo_altered_65 (by decide) ?_
            exact E_rI d_Mo_altered_74 rfl hq
        · rw [if_neg c] at hq
          exact E_sub (ks := []) rfl <| t_Mo_altered_52 (by omega) hq
def f_Mo_years (a0 : Nat) (x1 : Int32) (x2 : Int32) (h : PH) : Option (Int32 × PH) :=
  (stI h 9 a0 0 0).bind fun h1 =>
  (isO h1 9 a0).bind fun _ =>
  (f_Mo_isIn a0 x1 1 30 h1).bind fun p2 =>
  if p2.1 = 0 then
    rtZ 0 p2.2
  else
    (isO p2.2 9 a0).bind fun _ =>
    (f_Mo_isIn a0 x2 0 ((jshl 1 x1) - 1) p2.2).bind fun p4 =>
    if p4.1 = 0 then
      rtZ 0 p4.2
    else
      (stI p4.2 9 a0 68 x1).bind fun h6 =>
      (stI h6 9 a0 69 x2).bind fun h7 =>
      rtZ 1 h7
theorem t_Mo_years {d : Nat} (hd : 1 ≤ d) {a0 : Nat} {x1 : Int32} {x2 : Int32} {h : PH} {r : Int32 × PH} (hq : f_Mo_years a0 x1 x2 h = some r) : E d 0 0 m_Mo_years 0 [(0, .ref a0), (1, .int x1), (2, .int x2)] [] h (PI r) := by
  unfold f_Mo_years at hq
  obtain ⟨d, rfl⟩ : ∃ e, d = e + 1 := ⟨d - 1, by omega⟩
  refine E_aln 0 d_Mo_years_0 rfl rfl ?_
  refine E_ic (v := 0) d_Mo_years_1 (by decide) ?_
  obtain ⟨h1, eh1, hq⟩ := bd hq
  refine E_pI d_Mo_years_2 lp_Mo_m_140 rfl eh1 ?_
  refine E_aln 0 d_Mo_years_5 rfl rfl ?_
  refine E_iln 1 d_Mo_years_6 rfl rfl ?_
  refine E_ic (v := 1) d_Mo_years_7 (by decide) ?_
  refine E_bi (v := 30) d_Mo_years_8 (by decide) ?_
  obtain ⟨q3, eq3, hq⟩ := bd hq
  obtain ⟨p2, ep2, hq⟩ := bd hq
  refine E_cV3I d_Mo_years_10 ck_Mo_162 rfl rfl eq3 (Nat.le_of_ble_eq_true rfl) (Nat.le_of_ble_eq_true rfl) (t_Mo_isIn (by omega) ep2) ?_
  refine E_zeq (tgt := 30) d_Mo_years_13 (by decide) (fun c => ?_) (fun c => ?_)
  · rw [if_pos c] at hq
    refine E_ic (v := 0) d_Mo_years_30 (by decide) ?_
    exact E_rZ d_Mo_years_31 rfl hq
  · rw [if_neg c] at hq
    refine E_aln 0 d_Mo_years_16 rfl rfl ?_
    refine E_iln 2 d_Mo_years_17 rfl rfl ?_
    refine E_ic (v := 0) d_Mo_years_18 (by decide) ?_
    refine E_ic (v := 1) d_Mo_years_19 (by decide) ?_
    refine E_iln 1 d_Mo_years_20 rfl rfl ?_
    refine E_ishl d_Mo_years_21 ?_
    refine E_ic (v := 1) d_Mo_years_22 (by decide) ?_
    refine E_isub d_Mo_years_23 ?_
    obtain ⟨q5, eq5, hq⟩ := bd hq
    obtain ⟨p4, ep4, hq⟩ := bd hq
    refine E_cV3I d_Mo_years_24 ck_Mo_162 rfl rfl eq5 (Nat.le_of_ble_eq_true rfl) (Nat.le_of_ble_eq_true rfl) (t_Mo_isIn (by omega) ep4) ?_
    refine E_zne (tgt := 32) d_Mo_years_27 (by decide) (fun c => ?_) (fun c => ?_)
    · rw [if_neg c] at hq
      refine E_aln 0 d_Mo_years_32 rfl rfl ?_
      refine E_iln 1 d_Mo_years_33 rfl rfl ?_
      obtain ⟨h6, eh6, hq⟩ := bd hq
      refine E_pI d_Mo_years_34 lp_Mo_m_480 rfl eh6 ?_
      refine E_aln 0 d_Mo_years_37 rfl rfl ?_
      refine E_iln 2 d_Mo_years_38 rfl rfl ?_
      obtain ⟨h7, eh7, hq⟩ := bd hq
      refine E_pI d_Mo_years_39 lp_Mo_m_483 rfl eh7 ?_
      refine E_ic (v := 1) d_Mo_years_42 (by decide) ?_
      exact E_rZ d_Mo_years_43 rfl hq
    · rw [if_pos c] at hq
      refine E_ic (v := 0) d_Mo_years_30 (by decide) ?_
      exact E_rZ d_Mo_years_31 rfl hq
def f_Mo_dry_56 (k27 : Nat → Int32 → Int32 → Int32 → Int32 → Int32 → PH → Option (Int32 × PH)) (a0 : Nat) (x1 : Int32) (x3 : Int32) (x4 : Int32) (x5 : Int32) (s0 : Int32) (h : PH) : Option (Int32 × PH) :=
  if x3 < s0 then
    k27 a0 x1 s0 s0 ((x5 - s0) + 1) (x5 + 1) h
  else
    k27 a0 x1 s0 x3 x4 (x5 + 1) h
theorem t_Mo_dry_56 {d : Nat} (hd : 1 ≤ d) {k27 : Nat → Int32 → Int32 → Int32 → Int32 → Int32 → PH → Option (Int32 × PH)} (hk27 : ∀ (a0 : Nat) (x1 : Int32) (x2 : Int32) (x3 : Int32) (x4 : Int32) (x5 : Int32) (h : PH) (r : Int32 × PH), k27 a0 x1 x2 x3 x4 x5 h = some r → E d 0 0 m_Mo_dry 27 [(0, .ref a0), (1, .int x1), (2, .int x2), (3, .int x3), (4, .int x4), (5, .int x5)] [] h (PI r)) {a0 : Nat} {x1 : Int32} {x3 : Int32} {x4 : Int32} {x5 : Int32} {s0 : Int32} {h : PH} {r : Int32 × PH} (hq : f_Mo_dry_56 k27 a0 x1 x3 x4 x5 s0 h = some r) : E d 0 0 m_Mo_dry 56 [(0, .ref a0), (1, .int x1), (3, .int x3), (4, .int x4), (5, .int x5)] [.int s0] h (PI r) := by
  unfold f_Mo_dry_56 at hq
  obtain ⟨d, rfl⟩ : ∃ e, d = e + 1 := ⟨d - 1, by omega⟩
  refine E_isn (ls' := [(2, .int s0), (0, .ref a0), (1, .int x1), (3, .int x3), (4, .int x4), (5, .int x5)]) d_Mo_dry_56 (Nat.le_of_ble_eq_true rfl) rfl ?_
  refine E_iln 0 d_Mo_dry_57 rfl rfl ?_
  refine E_iln 3 d_Mo_dry_58 rfl rfl ?_
  refine E_jgt (tgt := 65) d_Mo_dry_59 (by decide) (fun c => ?_) (fun c => ?_)
  · rw [if_pos c] at hq
    refine E_iln 0 d_Mo_dry_65 rfl rfl ?_
    refine E_isn (ls' := [(3, .int s0), (2, .int s0), (0, .ref a0), (1, .int x1), (4, .int x4), (5, .int x5)]) d_Mo_dry_66 (Nat.le_of_ble_eq_true rfl) rfl ?_
    refine E_il 5 d_Mo_dry_67 rfl ?_
    refine E_iln 1 d_Mo_dry_69 rfl rfl ?_
    refine E_isub d_Mo_dry_70 ?_
    refine E_ic (v := 1) d_Mo_dry_71 (by decide) ?_
    refine E_iadd d_Mo_dry_72 ?_
    refine E_is (ls' := [(4, .int ((x5 - s0) + 1)), (3, .int s0), (2, .int s0), (0, .ref a0), (1, .int x1), (5, .int x5)]) d_Mo_dry_73 (Nat.le_of_ble_eq_true rfl) rfl ?_
    refine E_inc (v := 1) (ls' := [(5, .int (x5 + 1)), (4, .int ((x5 - s0) + 1)), (3, .int s0), (2, .int s0), (0, .ref a0), (1, .int x1)]) 5 d_Mo_dry_75 rfl (Nat.le_of_ble_eq_true rfl) (by decide) rfl ?_
    refine E_goto (tgt := 27) d_Mo_dry_78 (by decide) ?_
    exact E_sub (ks := [4, 5, 3, 2, 1, 0]) rfl <| hk27 _ _ _ _ _ _ _ _ hq
  · rw [if_neg c] at hq
    refine E_goto (tgt := 75) d_Mo_dry_62 (by decide) ?_
    refine E_inc (v := 1) (ls' := [(5, .int (x5 + 1)), (2, .int s0), (0, .ref a0), (1, .int x1), (3, .int x3), (4, .int x4)]) 5 d_Mo_dry_75 rfl (Nat.le_of_ble_eq_true rfl) (by decide) rfl ?_
    refine E_goto (tgt := 27) d_Mo_dry_78 (by decide) ?_
    exact E_sub (ks := [2, 3, 1, 4, 5, 0]) rfl <| hk27 _ _ _ _ _ _ _ _ hq
def f_Mo_dry_27 : Nat → Nat → Int32 → Int32 → Int32 → Int32 → Int32 → PH → Option (Int32 × PH)
  | 0, _, _, _, _, _, _, _ => none
  | n + 1, a0, x1, x2, x3, x4, x5, h =>
    (ldI h 9 a0 68).bind fun v1 =>
    if v1 ≤ x5 then
      if x1 = 0 then
        some (x3, h)
      else
        some (x4, h)
    else
      (ldI h 9 a0 69).bind fun v2 =>
      (isO h 9 a0).bind fun _ =>
      (f_Mo_has a0 v2 x5 h).bind fun p3 =>
      if p3.1 = 0 then
        f_Mo_dry_56 (fun a0 x1 x2 x3 x4 x5 h => f_Mo_dry_27 n a0 x1 x2 x3 x4 x5 h) a0 x1 x3 x4 x5 (x2 + 1) p3.2
      else
        f_Mo_dry_56 (fun a0 x1 x2 x3 x4 x5 h => f_Mo_dry_27 n a0 x1 x2 x3 x4 x5 h) a0 x1 x3 x4 x5 0 p3.2
theorem t_Mo_dry_27 {d : Nat} (hd : 1 ≤ d) : ∀ (n : Nat) (a0 : Nat) (x1 : Int32) (x2 : Int32) (x3 : Int32) (x4 : Int32) (x5 : Int32) (h : PH) (r : Int32 × PH), f_Mo_dry_27 n a0 x1 x2 x3 x4 x5 h = some r → E d 0 0 m_Mo_dry 27 [(0, .ref a0), (1, .int x1), (2, .int x2), (3, .int x3), (4, .int x4), (5, .int x5)] [] h (PI r) := by
  intro n
  induction n with
  | zero => intro a0 x1 x2 x3 x4 x5 h r hq; rw [f_Mo_dry_27] at hq; cases hq
  | succ n ih =>
    intro a0 x1 x2 x3 x4 x5 h r hq
    rw [f_Mo_dry_27] at hq
    obtain ⟨d, rfl⟩ : ∃ e, d = e + 1 := ⟨d - 1, by omega⟩
    refine E_il 5 d_Mo_dry_27 rfl ?_
    refine E_aln 0 d_Mo_dry_29 rfl rfl ?_
    obtain ⟨v1, ev1, hq⟩ := bd hq
    refine E_gI d_Mo_dry_30 lk_Mo_480 rfl ev1 ?_
    refine E_jge (tgt := 81) d_Mo_dry_33 (by decide) (fun c => ?_) (fun c => ?_)
    · rw [if_pos c] at hq
      refine E_iln 1 d_Mo_dry_81 rfl rfl ?_
      refine E_zne (tgt := 89) d_Mo_dry_82 (by decide) (fun c => ?_) (fun c => ?_)
      · rw [if_neg c] at hq
        refine E_il 4 d_Mo_dry_89 rfl ?_
        exact E_rI d_Mo_dry_91 rfl hq
      · rw [if_pos c] at hq
        refine E_iln 3 d_Mo_dry_85 rfl rfl ?_
        refine E_goto (tgt := 91) d_Mo_dry_86 (by decide) ?_
        exact E_rI d_Mo_dry_91 rfl hq
    · rw [if_neg c] at hq
      refine E_aln 0 d_Mo_dry_36 rfl rfl ?_
      refine E_aln 0 d_Mo_dry_37 rfl rfl ?_
      obtain ⟨v2, ev2, hq⟩ := bd hq
      refine E_gI d_Mo_dry_38 lk_Mo_483 rfl ev2 ?_
      refine E_il 5 d_Mo_dry_41 rfl ?_
      obtain ⟨q4, eq4, hq⟩ := bd hq
      obtain ⟨p3, ep3, hq⟩ := bd hq
      refine E_cV2I d_Mo_dry_43 ck_Mo_158 rfl rfl eq4 (Nat.le_of_ble_eq_true rfl) (Nat.le_of_ble_eq_true rfl) (t_Mo_has (by omega) ep3) ?_
      refine E_zeq (tgt := 53) d_Mo_dry_46 (by decide) (fun c => ?_) (fun c => ?_)
      · rw [if_pos c] at hq
        refine E_iln 2 d_Mo_dry_53 rfl rfl ?_
        refine E_ic (v := 1) d_Mo_dry_54 (by decide) ?_
        refine E_iadd d_Mo_dry_55 ?_
        exact E_sub (ks := [0, 1, 3, 4, 5]) rfl <| t_Mo_dry_56 (by omega) ih hq
      · rw [if_neg c] at hq
        refine E_ic (v := 0) d_Mo_dry_49 (by decide) ?_
        refine E_goto (tgt := 56) d_Mo_dry_50 (by decide) ?_
        exact E_sub (ks := [0, 1, 3, 4, 5]) rfl <| t_Mo_dry_56 (by omega) ih hq
def f_Mo_dry (a0 : Nat) (x1 : Int32) (h : PH) : Option (Int32 × PH) :=
  (stI h 9 a0 0 0).bind fun h1 =>
  (isO h1 9 a0).bind fun _ =>
  (f_Mo_isIn a0 x1 0 1 h1).bind fun p2 =>
  if p2.1 = 0 then
    some ((-1), p2.2)
  else
    f_Mo_dry_27 FU a0 x1 0 0 (-1) 0 p2.2
theorem t_Mo_dry {d : Nat} (hd : 1 ≤ d) {a0 : Nat} {x1 : Int32} {h : PH} {r : Int32 × PH} (hq : f_Mo_dry a0 x1 h = some r) : E d 0 0 m_Mo_dry 0 [(0, .ref a0), (1, .int x1)] [] h (PI r) := by
  unfold f_Mo_dry at hq
  obtain ⟨d, rfl⟩ : ∃ e, d = e + 1 := ⟨d - 1, by omega⟩
  refine E_aln 0 d_Mo_dry_0 rfl rfl ?_
  refine E_ic (v := 0) d_Mo_dry_1 (by decide) ?_
  obtain ⟨h1, eh1, hq⟩ := bd hq
  refine E_pI d_Mo_dry_2 lp_Mo_m_140 rfl eh1 ?_
  refine E_aln 0 d_Mo_dry_5 rfl rfl ?_
  refine E_iln 1 d_Mo_dry_6 rfl rfl ?_
  refine E_ic (v := 0) d_Mo_dry_7 (by decide) ?_
  refine E_ic (v := 1) d_Mo_dry_8 (by decide) ?_
  obtain ⟨q3, eq3, hq⟩ := bd hq
  obtain ⟨p2, ep2, hq⟩ := bd hq
  refine E_cV3I d_Mo_dry_9 ck_Mo_162 rfl rfl eq3 (Nat.le_of_ble_eq_true rfl) (Nat.le_of_ble_eq_true rfl) (t_Mo_isIn (by omega) ep2) ?_
  refine E_zne (tgt := 17) d_Mo_dry_12 (by decide) (fun c => ?_) (fun c => ?_)
  · rw [if_neg c] at hq
    refine E_ic (v := 0) d_Mo_dry_17 (by decide) ?_
    refine E_isn (ls' := [(2, .int 0), (0, .ref a0), (1, .int x1)]) d_Mo_dry_18 (Nat.le_of_ble_eq_true rfl) rfl ?_
    refine E_ic (v := 0) d_Mo_dry_19 (by decide) ?_
    refine E_isn (ls' := [(3, .int 0), (2, .int 0), (0, .ref a0), (1, .int x1)]) d_Mo_dry_20 (Nat.le_of_ble_eq_true rfl) rfl ?_
    refine E_ic (v := (-1)) d_Mo_dry_21 (by decide) ?_
    refine E_is (ls' := [(4, .int (-1)), (3, .int 0), (2, .int 0), (0, .ref a0), (1, .int x1)]) d_Mo_dry_22 (Nat.le_of_ble_eq_true rfl) rfl ?_
    refine E_ic (v := 0) d_Mo_dry_24 (by decide) ?_
    refine E_is (ls' := [(5, .int 0), (4, .int (-1)), (3, .int 0), (2, .int 0), (0, .ref a0), (1, .int x1)]) d_Mo_dry_25 (Nat.le_of_ble_eq_true rfl) rfl ?_
    exact E_sub (ks := [4, 5, 3, 2, 1, 0]) rfl <| t_Mo_dry_27 (by omega) _ _ _ _ _ _ _ _ _ hq
  · rw [if_pos c] at hq
    refine E_ic (v := (-1)) d_Mo_dry_15 (by decide) ?_
    exact E_rI d_Mo_dry_16 rfl hq
