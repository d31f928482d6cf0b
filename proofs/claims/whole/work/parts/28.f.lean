def f_Mo_readKin_26 : Nat → Nat → Int32 → PH → Option (Int32 × PH)
  | 0, _, _, _ => none
  | n + 1, a0, x1, h =>
    (isO h 9 a0).bind fun _ =>
    (f_Mo_isWord a0 17 h).bind fun p1 =>
    if p1.1 = 0 then
      (ldI p1.2 9 a0 17).bind fun v3 =>
      if v3 = 0 then
        some (x1, p1.2)
      else
        (isO p1.2 9 a0).bind fun _ =>
        (f_Mo_errs a0 1 p1.2).bind fun p4 =>
        some (p4.1, p4.2)
    else
      if x1 = 16 then
        (isO p1.2 9 a0).bind fun _ =>
        (f_Mo_errs a0 3 p1.2).bind fun p8 =>
        some (p8.1, p8.2)
      else
        (isO p1.2 9 a0).bind fun _ =>
        (f_Mo_readKinLine a0  p1.2).bind fun p6 =>
        if p6.1 = (-1) then
          some ((-1), p6.2)
        else
          f_Mo_readKin_26 n a0 (x1 + 1) p6.2
theorem t_Mo_readKin_26 {d : Nat} (hd : 6 ≤ d) : ∀ (n : Nat) (a0 : Nat) (x1 : Int32) (h : PH) (r : Int32 × PH), f_Mo_readKin_26 n a0 x1 h = some r → E d 0 0 m_Mo_readKin 26 [(0, .ref a0), (1, .int x1)] [] h (PI r) := by
  intro n
  induction n with
  | zero => intro a0 x1 h r hq; rw [f_Mo_readKin_26] at hq; cases hq
  | succ n ih =>
    intro a0 x1 h r hq
    rw [f_Mo_readKin_26] at hq
    obtain ⟨d, rfl⟩ : ∃ e, d = e + 1 := ⟨d - 1, by omega⟩
    refine E_aln 0 d_Mo_readKin_26 rfl rfl ?_
    refine E_bi (v := 17) d_Mo_readKin_27 (by decide) ?_
    obtain ⟨q2, eq2, hq⟩ := bd hq
    obtain ⟨p1, ep1, hq⟩ := bd hq
    refine E_cV1I d_Mo_readKin_29 ck_Mo_256 rfl rfl eq2 (Nat.le_of_ble_eq_true rfl) (Nat.le_of_ble_eq_true rfl) (t_Mo_isWord (by omega) ep1) ?_
    refine E_zeq (tgt := 64) d_Mo_readKin_32 (by decide) (fun c => ?_) (fun c => ?_)
    · rw [if_pos c] at hq
      refine E_aln 0 d_Mo_readKin_64 rfl rfl ?_
      obtain ⟨v3, ev3, hq⟩ := bd hq
      refine E_gI d_Mo_readKin_65 lk_Mo_196 rfl ev3 ?_
      refine E_zne (tgt := 75) d_Mo_readKin_68 (by decide) (fun c => ?_) (fun c => ?_)
      · rw [if_neg c] at hq
        refine E_aln 0 d_Mo_readKin_75 rfl rfl ?_
        refine E_ic (v := 1) d_Mo_readKin_76 (by decide) ?_
        obtain ⟨q5, eq5, hq⟩ := bd hq
        obtain ⟨p4, ep4, hq⟩ := bd hq
        refine E_cV1I d_Mo_readKin_77 ck_Mo_227 rfl rfl eq5 (Nat.le_of_ble_eq_true rfl) (Nat.le_of_ble_eq_true rfl) (t_Mo_errs (by omega) ep4) ?_
        exact E_rI d_Mo_readKin_80 rfl hq
      · rw [if_pos c] at hq
        refine E_iln 1 d_Mo_readKin_71 rfl rfl ?_
        refine E_goto (tgt := 80) d_Mo_readKin_72 (by decide) ?_
        exact E_rI d_Mo_readKin_80 rfl hq
    · rw [if_neg c] at hq
      refine E_iln 1 d_Mo_readKin_35 rfl rfl ?_
      refine E_bi (v := 16) d_Mo_readKin_36 (by decide) ?_
      refine E_jne (tgt := 47) d_Mo_readKin_38 (by decide) (fun c => ?_) (fun c => ?_)
      · rw [if_neg c] at hq
        refine E_aln 0 d_Mo_readKin_47 rfl rfl ?_
        obtain ⟨q7, eq7, hq⟩ := bd hq
        obtain ⟨p6, ep6, hq⟩ := bd hq
        refine E_cV0I d_Mo_readKin_48 ck_Mo_288 rfl rfl eq7 (Nat.le_of_ble_eq_true rfl) (Nat.le_of_ble_eq_true rfl) (t_Mo_readKinLine (by omega) ep6) ?_
        refine E_ic (v := (-1)) d_Mo_readKin_51 (by decide) ?_
        refine E_jne (tgt := 57) d_Mo_readKin_52 (by decide) (fun c => ?_) (fun c => ?_)
        · rw [if_neg c] at hq
          refine E_iln 1 d_Mo_readKin_57 rfl rfl ?_
          refine E_ic (v := 1) d_Mo_readKin_58 (by decide) ?_
          refine E_iadd d_Mo_readKin_59 ?_
          refine E_isn (ls' := [(1, .int (x1 + 1)), (0, .ref a0)]) d_Mo_readKin_60 (Nat.le_of_ble_eq_true rfl) rfl ?_
          refine E_goto (tgt := 26) d_Mo_readKin_61 (by decide) ?_
          exact E_sub (ks := [1, 0]) rfl <| ih _ _ _ _ hq
        · rw [if_pos c] at hq
          refine E_ic (v := (-1)) d_Mo_readKin_55 (by decide) ?_
          exact E_rI d_Mo_readKin_56 rfl hq
      · rw [if_pos c] at hq
        refine E_aln 0 d_Mo_readKin_41 rfl rfl ?_
        refine E_ic (v := 3) d_Mo_readKin_42 (by decide) ?_
        obtain ⟨q9, eq9, hq⟩ := bd hq
        obtain ⟨p8, ep8, hq⟩ := bd hq
        refine E_cV1I d_Mo_readKin_43 ck_Mo_227 rfl rfl eq9 (Nat.le_of_ble_eq_true rfl) (Nat.le_of_ble_eq_true rfl) (t_Mo_errs (by omega) ep8) ?_
        exact E_rI d_Mo_readKin_46 rfl hq
def f_Mo_readKin_2 : Nat → Nat → Int32 → PH → Option (Int32 × PH)
  | 0, _, _, _ => none
  | n + 1, a0, x1, h =>
    if 12 ≤ x1 then
      f_Mo_readKin_26 FU a0 0 h
    else
      (ldR h 9 a0 37).bind fun v1 =>
      (wrA h v1 (12 + x1) 0).bind fun h2 =>
      f_Mo_readKin_2 n a0 (x1 + 1) h2
theorem t_Mo_readKin_2 {d : Nat} (hd : 6 ≤ d) : ∀ (n : Nat) (a0 : Nat) (x1 : Int32) (h : PH) (r : Int32 × PH), f_Mo_readKin_2 n a0 x1 h = some r → E d 0 0 m_Mo_readKin 2 [(0, .ref a0), (1, .int x1)] [] h (PI r) := by
  intro n
  induction n with
  | zero => intro a0 x1 h r hq; rw [f_Mo_readKin_2] at hq; cases hq
  | succ n ih =>
    intro a0 x1 h r hq
    rw [f_Mo_readKin_2] at hq
    obtain ⟨d, rfl⟩ : ∃ e, d = e + 1 := ⟨d - 1, by omega⟩
    refine E_iln 1 d_Mo_readKin_2 rfl rfl ?_
    refine E_bi (v := 12) d_Mo_readKin_3 (by decide) ?_
    refine E_jge (tgt := 24) d_Mo_readKin_5 (by decide) (fun c => ?_) (fun c => ?_)
    · rw [if_pos c] at hq
      refine E_ic (v := 0) d_Mo_readKin_24 (by decide) ?_
      refine E_isn (ls' := [(1, .int 0), (0, .ref a0)]) d_Mo_readKin_25 (Nat.le_of_ble_eq_true rfl) rfl ?_
      exact E_sub (ks := [1, 0]) rfl <| t_Mo_readKin_26 (by omega) _ _ _ _ _ hq
    · rw [if_neg c] at hq
      refine E_aln 0 d_Mo_readKin_8 rfl rfl ?_
      obtain ⟨v1, ev1, hq⟩ := bd hq
      refine E_gR d_Mo_readKin_9 lk_Mo_68 rfl ev1 ?_
      refine E_bi (v := 12) d_Mo_readKin_12 (by decide) ?_
      refine E_iln 1 d_Mo_readKin_14 rfl rfl ?_
      refine E_iadd d_Mo_readKin_15 ?_
      refine E_ic (v := 0) d_Mo_readKin_16 (by decide) ?_
      obtain ⟨h2, eh2, hq⟩ := bd hq
      refine E_wa d_Mo_readKin_17 eh2 ?_
      refine E_inc (v := 1) (ls' := [(1, .int (x1 + 1)), (0, .ref a0)]) 1 d_Mo_readKin_18 rfl (Nat.le_of_ble_eq_true rfl) (by decide) rfl ?_
      refine E_goto (tgt := 2) d_Mo_readKin_21 (by decide) ?_
      exact E_sub (ks := [1, 0]) rfl <| ih _ _ _ _ hq
def f_Mo_readKin (a0 : Nat) (h : PH) : Option (Int32 × PH) :=
  f_Mo_readKin_2 FU a0 0 h
theorem t_Mo_readKin {d : Nat} (hd : 6 ≤ d) {a0 : Nat} {h : PH} {r : Int32 × PH} (hq : f_Mo_readKin a0 h = some r) : E d 0 0 m_Mo_readKin 0 [(0, .ref a0)] [] h (PI r) := by
  unfold f_Mo_readKin at hq
  obtain ⟨d, rfl⟩ : ∃ e, d = e + 1 := ⟨d - 1, by omega⟩
  refine E_ic (v := 0) d_Mo_readKin_0 (by decide) ?_
  refine E_isn (ls' := [(1, .int 0), (0, .ref a0)]) d_Mo_readKin_1 (Nat.le_of_ble_eq_true rfl) rfl ?_
  exact E_sub (ks := [1, 0]) rfl <| t_Mo_readKin_2 (by omega) _ _ _ _ _ hq
def f_Mo_mostFor (a0 : Nat) (x1 : Int32) (h : PH) : Option (Int32 × PH) :=
  if x1 = 2 then
    some (3, h)
  else
    if x1 = 3 then
      some (3, h)
    else
      if x1 = 4 then
        (ldI h 9 a0 7).bind fun v2 =>
        some ((v2 - 1), h)
      else
        (ldI h 9 a0 6).bind fun v1 =>
        some ((v1 - 1), h)
theorem t_Mo_mostFor {d : Nat} (hd : 0 ≤ d) {a0 : Nat} {x1 : Int32} {h : PH} {r : Int32 × PH} (hq : f_Mo_mostFor a0 x1 h = some r) : E d 0 0 m_Mo_mostFor 0 [(0, .ref a0), (1, .int x1)] [] h (PI r) := by
  unfold f_Mo_mostFor at hq
  refine E_iln 1 d_Mo_mostFor_0 rfl rfl ?_
  refine E_ic (v := 2) d_Mo_mostFor_1 (by decide) ?_
  refine E_jeq (tgt := 10) d_Mo_mostFor_2 (by decide) (fun c => ?_) (fun c => ?_)
  · rw [if_pos c] at hq
    refine E_ic (v := 3) d_Mo_mostFor_10 (by decide) ?_
    exact E_rI d_Mo_mostFor_11 rfl hq
  · rw [if_neg c] at hq
    refine E_iln 1 d_Mo_mostFor_5 rfl rfl ?_
    refine E_ic (v := 3) d_Mo_mostFor_6 (by decide) ?_
    refine E_jne (tgt := 12) d_Mo_mostFor_7 (by decide) (fun c => ?_) (fun c => ?_)
    · rw [if_neg c] at hq
      refine E_iln 1 d_Mo_mostFor_12 rfl rfl ?_
      refine E_ic (v := 4) d_Mo_mostFor_13 (by decide) ?_
      refine E_jne (tgt := 26) d_Mo_mostFor_14 (by decide) (fun c => ?_) (fun c => ?_)
      · rw [if_neg c] at hq
        refine E_aln 0 d_Mo_mostFor_26 rfl rfl ?_
        obtain ⟨v1, ev1, hq⟩ := bd hq
        refine E_gI d_Mo_mostFor_27 lk_Mo_152 rfl ev1 ?_
        refine E_ic (v := 1) d_Mo_mostFor_30 (by decide) ?_
        refine E_isub d_Mo_mostFor_31 ?_
        exact E_rI d_Mo_mostFor_32 rfl hq
      · rw [if_pos c] at hq
        refine E_aln 0 d_Mo_mostFor_17 rfl rfl ?_
        obtain ⟨v2, ev2, hq⟩ := bd hq
        refine E_gI d_Mo_mostFor_18 lk_Mo_155 rfl ev2 ?_
        refine E_ic (v := 1) d_Mo_mostFor_21 (by decide) ?_
        refine E_isub d_Mo_mostFor_22 ?_
        refine E_goto (tgt := 32) d_Mo_mostFor_23 (by decide) ?_
        exact E_rI d_Mo_mostFor_32 rfl hq
    · rw [if_pos c] at hq
      refine E_ic (v := 3) d_Mo_mostFor_10 (by decide) ?_
      exact E_rI d_Mo_mostFor_11 rfl hq
def f_Mo_readDeed_142 (a0 : Nat) (x1 : Int32) (s0 : Int32) (s1 : Int32) (s2 : Nat) (h : PH) : Option (Int32 × PH) :=
  (wrA h s2 s1 s0).bind fun h1 =>
  (ldR h1 9 a0 39).bind fun v2 =>
  (rdA h1 v2 (x1 + 3)).bind fun v3 =>
  if v3 = (-1) then
    some ((-1), h1)
  else
    (isO h1 9 a0).bind fun _ =>
    (f_Mo_readMark a0 59 h1).bind fun p4 =>
    some (p4.1, p4.2)
theorem t_Mo_readDeed_142 {d : Nat} (hd : 5 ≤ d) {a0 : Nat} {x1 : Int32} {s0 : Int32} {s1 : Int32} {s2 : Nat} {h : PH} {r : Int32 × PH} (hq : f_Mo_readDeed_142 a0 x1 s0 s1 s2 h = some r) : E d 0 0 m_Mo_readDeed 142 [(0, .ref a0), (1, .int x1)] [.int s0, .int s1, .ref s2] h (PI r) := by
  unfold f_Mo_readDeed_142 at hq
  obtain ⟨d, rfl⟩ : ∃ e, d = e + 1 := ⟨d - 1, by omega⟩
  obtain ⟨h1, eh1, hq⟩ := bd hq
  refine E_wa d_Mo_readDeed_142 eh1 ?_
  refine E_aln 0 d_Mo_readDeed_143 rfl rfl ?_
  obtain ⟨v2, ev2, hq⟩ := bd hq
  refine E_gR d_Mo_readDeed_144 lk_Mo_71 rfl ev2 ?_
  refine E_iln 1 d_Mo_readDeed_147 rfl rfl ?_
  refine E_ic (v := 3) d_Mo_readDeed_148 (by decide) ?_
  refine E_iadd d_Mo_readDeed_149 ?_
  obtain ⟨v3, ev3, hq⟩ := bd hq
  refine E_ra d_Mo_readDeed_150 ev3 ?_
  refine E_ic (v := (-1)) d_Mo_readDeed_151 (by decide) ?_
  refine E_jne (tgt := 159) d_Mo_readDeed_152 (by decide) (fun c => ?_) (fun c => ?_)
  · rw [if_neg c] at hq
    refine E_aln 0 d_Mo_readDeed_159 rfl rfl ?_
    refine E_bi (v := 59) d_Mo_readDeed_160 (by decide) ?_
    obtain ⟨q5, eq5, hq⟩ := bd hq
    obtain ⟨p4, ep4, hq⟩ := bd hq
    refine E_cV1I d_Mo_readDeed_162 ck_Mo_285 rfl rfl eq5 (Nat.le_of_ble_eq_true rfl) (Nat.le_of_ble_eq_true rfl) (t_Mo_readMark (by omega) ep4) ?_
    exact E_rI d_Mo_readDeed_165 rfl hq
  · rw [if_pos c] at hq
    refine E_ic (v := (-1)) d_Mo_readDeed_155 (by decide) ?_
    refine E_goto (tgt := 165) d_Mo_readDeed_156 (by decide) ?_
    exact E_rI d_Mo_readDeed_165 rfl hq
def f_Mo_readDeed_130 (a0 : Nat) (x1 : Int32) (s0 : Int32) (s1 : Nat) (h : PH) : Option (Int32 × PH) :=
  (isO h 9 a0).bind fun _ =>
  (f_Mo_readTold a0 21 0 3 h).bind fun p1 =>
  f_Mo_readDeed_142 a0 x1 p1.1 s0 s1 p1.2
theorem t_Mo_readDeed_130 {d : Nat} (hd : 5 ≤ d) {a0 : Nat} {x1 : Int32} {s0 : Int32} {s1 : Nat} {h : PH} {r : Int32 × PH} (hq : f_Mo_readDeed_130 a0 x1 s0 s1 h = some r) : E d 0 0 m_Mo_readDeed 130 [(0, .ref a0), (1, .int x1)] [.int s0, .ref s1] h (PI r) := by
  unfold f_Mo_readDeed_130 at hq
  obtain ⟨d, rfl⟩ : ∃ e, d = e + 1 := ⟨d - 1, by omega⟩
  refine E_aln 0 d_Mo_readDeed_130 rfl rfl ?_
  refine E_bi (v := 21) d_Mo_readDeed_131 (by decide) ?_
  refine E_ic (v := 0) d_Mo_readDeed_133 (by decide) ?_
  refine E_ic (v := 3) d_Mo_readDeed_134 (by decide) ?_
  obtain ⟨q2, eq2, hq⟩ := bd hq
  obtain ⟨p1, ep1, hq⟩ := bd hq
  refine E_cV3I d_Mo_readDeed_135 ck_Mo_281 rfl rfl eq2 (Nat.le_of_ble_eq_true rfl) (Nat.le_of_ble_eq_true rfl) (t_Mo_readTold (by omega) ep1) ?_
  refine E_goto (tgt := 142) d_Mo_readDeed_138 (by decide) ?_
  exact t_Mo_readDeed_142 (by omega) hq
def f_Mo_readDeed_69 (a0 : Nat) (x1 : Int32) (x2 : Int32) (h : PH) : Option (Int32 × PH) :=
  (isO h 9 a0).bind fun _ =>
  (f_Mo_reads a0  h).bind fun h1 =>
  (ldR h1 9 a0 39).bind fun v3 =>
  (wrA h1 v3 (x1 + 1) x2).bind fun h4 =>
  (ldR h4 9 a0 39).bind fun v5 =>
  (isO h4 9 a0).bind fun _ =>
  (f_Mo_mostFor a0 x2 h4).bind fun p6 =>
  (isO p6.2 9 a0).bind fun _ =>
  (f_Mo_readNumber a0 0 p6.1 p6.2).bind fun p8 =>
  (wrA p8.2 v5 (x1 + 2) p8.1).bind fun h10 =>
  (ldR h10 9 a0 39).bind fun v11 =>
  (rdA h10 v11 (x1 + 2)).bind fun v12 =>
  if v12 = (-1) then
    some ((-1), h10)
  else
    (ldR h10 9 a0 39).bind fun v13 =>
    if x2 = 0 then
      f_Mo_readDeed_130 a0 x1 (x1 + 3) v13 h10
    else
      if x2 = 4 then
        f_Mo_readDeed_130 a0 x1 (x1 + 3) v13 h10
      else
        f_Mo_readDeed_142 a0 x1 0 (x1 + 3) v13 h10
theorem t_Mo_readDeed_69 {d : Nat} (hd : 5 ≤ d) {a0 : Nat} {x1 : Int32} {x2 : Int32} {h : PH} {r : Int32 × PH} (hq : f_Mo_readDeed_69 a0 x1 x2 h = some r) : E d 0 0 m_Mo_readDeed 69 [(0, .ref a0), (1, .int x1), (2, .int x2)] [] h (PI r) := by
  unfold f_Mo_readDeed_69 at hq
  obtain ⟨d, rfl⟩ : ∃ e, d = e + 1 := ⟨d - 1, by omega⟩
  refine E_aln 0 d_Mo_readDeed_69 rfl rfl ?_
  obtain ⟨q2, eq2, hq⟩ := bd hq
  obtain ⟨h1, eh1, hq⟩ := bd hq
  refine E_cV0V d_Mo_readDeed_70 ck_Mo_234 rfl rfl eq2 (Nat.le_of_ble_eq_true rfl) (Nat.le_of_ble_eq_true rfl) (t_Mo_reads (by omega) eh1) ?_
  refine E_aln 0 d_Mo_readDeed_73 rfl rfl ?_
  obtain ⟨v3, ev3, hq⟩ := bd hq
  refine E_gR d_Mo_readDeed_74 lk_Mo_71 rfl ev3 ?_
  refine E_iln 1 d_Mo_readDeed_77 rfl rfl ?_
  refine E_ic (v := 1) d_Mo_readDeed_78 (by decide) ?_
  refine E_iadd d_Mo_readDeed_79 ?_
  refine E_iln 2 d_Mo_readDeed_80 rfl rfl ?_
  obtain ⟨h4, eh4, hq⟩ := bd hq
  refine E_wa d_Mo_readDeed_81 eh4 ?_
  refine E_aln 0 d_Mo_readDeed_82 rfl rfl ?_
  obtain ⟨v5, ev5, hq⟩ := bd hq
  refine E_gR d_Mo_readDeed_83 lk_Mo_71 rfl ev5 ?_
  refine E_iln 1 d_Mo_readDeed_86 rfl rfl ?_
  refine E_ic (v := 2) d_Mo_readDeed_87 (by decide) ?_
  refine E_iadd d_Mo_readDeed_88 ?_
  refine E_aln 0 d_Mo_readDeed_89 rfl rfl ?_
  refine E_ic (v := 0) d_Mo_readDeed_90 (by decide) ?_
  refine E_aln 0 d_Mo_readDeed_91 rfl rfl ?_
  refine E_iln 2 d_Mo_readDeed_92 rfl rfl ?_
  obtain ⟨q7, eq7, hq⟩ := bd hq
  obtain ⟨p6, ep6, hq⟩ := bd hq
  refine E_cV1I d_Mo_readDeed_93 ck_Mo_291 rfl rfl eq7 (Nat.le_of_ble_eq_true rfl) (Nat.le_of_ble_eq_true rfl) (t_Mo_mostFor (by omega) ep6) ?_
  obtain ⟨q9, eq9, hq⟩ := bd hq
  obtain ⟨p8, ep8, hq⟩ := bd hq
  refine E_cV2I d_Mo_readDeed_96 ck_Mo_278 rfl rfl eq9 (Nat.le_of_ble_eq_true rfl) (Nat.le_of_ble_eq_true rfl) (t_Mo_readNumber (by omega) ep8) ?_
  obtain ⟨h10, eh10, hq⟩ := bd hq
  refine E_wa d_Mo_readDeed_99 eh10 ?_
  refine E_aln 0 d_Mo_readDeed_100 rfl rfl ?_
  obtain ⟨v11, ev11, hq⟩ := bd hq
  refine E_gR d_Mo_readDeed_101 lk_Mo_71 rfl ev11 ?_
  refine E_iln 1 d_Mo_readDeed_104 rfl rfl ?_
  refine E_ic (v := 2) d_Mo_readDeed_105 (by decide) ?_
  refine E_iadd d_Mo_readDeed_106 ?_
  obtain ⟨v12, ev12, hq⟩ := bd hq
  refine E_ra d_Mo_readDeed_107 ev12 ?_
  refine E_ic (v := (-1)) d_Mo_readDeed_108 (by decide) ?_
  refine E_jne (tgt := 114) d_Mo_readDeed_109 (by decide) (fun c => ?_) (fun c => ?_)
  · rw [if_neg c] at hq
    refine E_aln 0 d_Mo_readDeed_114 rfl rfl ?_
    obtain ⟨v13, ev13, hq⟩ := bd hq
    refine E_gR d_Mo_readDeed_115 lk_Mo_71 rfl ev13 ?_
    refine E_iln 1 d_Mo_readDeed_118 rfl rfl ?_
    refine E_ic (v := 3) d_Mo_readDeed_119 (by decide) ?_
    refine E_iadd d_Mo_readDeed_120 ?_
    refine E_iln 2 d_Mo_readDeed_121 rfl rfl ?_
    refine E_zeq (tgt := 130) d_Mo_readDeed_122 (by decide) (fun c => ?_) (fun c => ?_)
    · rw [if_pos c] at hq
      exact E_sub (ks := [0, 1]) rfl <| t_Mo_readDeed_130 (by omega) hq
    · rw [if_neg c] at hq
      refine E_iln 2 d_Mo_readDeed_125 rfl rfl ?_
      refine E_ic (v := 4) d_Mo_readDeed_126 (by decide) ?_
      refine E_jne (tgt := 141) d_Mo_readDeed_127 (by decide) (fun c => ?_) (fun c => ?_)
      · rw [if_neg c] at hq
        refine E_ic (v := 0) d_Mo_readDeed_141 (by decide) ?_
        exact E_sub (ks := [0, 1]) rfl <| t_Mo_readDeed_142 (by omega) hq
      · rw [if_pos c] at hq
        exact E_sub (ks := [0, 1]) rfl <| t_Mo_readDeed_130 (by omega) hq
  · rw [if_pos c] at hq
    refine E_ic (v := (-1)) d_Mo_readDeed_112 (by decide) ?_
    exact E_rI d_Mo_readDeed_113 rfl hq
def f_Mo_readDeed_47 (a0 : Nat) (x1 : Int32) (s0 : Int32) (h : PH) : Option (Int32 × PH) :=
  if s0 = 0 then
    f_Mo_readDeed_69 a0 x1 s0 h
  else
    (isO h 9 a0).bind fun _ =>
    (f_Mo_isIn a0 s0 2 6 h).bind fun p1 =>
    if p1.1 = 0 then
      (isO p1.2 9 a0).bind fun _ =>
      (f_Mo_errs a0 1 p1.2).bind fun p3 =>
      some (p3.1, p3.2)
    else
      f_Mo_readDeed_69 a0 x1 s0 p1.2
theorem t_Mo_readDeed_47 {d : Nat} (hd : 5 ≤ d) {a0 : Nat} {x1 : Int32} {s0 : Int32} {h : PH} {r : Int32 × PH} (hq : f_Mo_readDeed_47 a0 x1 s0 h = some r) : E d 0 0 m_Mo_readDeed 47 [(0, .ref a0), (1, .int x1)] [.int s0] h (PI r) := by
  unfold f_Mo_readDeed_47 at hq
  obtain ⟨d, rfl⟩ : ∃ e, d = e + 1 := ⟨d - 1, by omega⟩
  refine E_isn (ls' := [(2, .int s0), (0, .ref a0), (1, .int x1)]) d_Mo_readDeed_47 (Nat.le_of_ble_eq_true rfl) rfl ?_
  refine E_iln 0 d_Mo_readDeed_48 rfl rfl ?_
  refine E_zeq (tgt := 69) d_Mo_readDeed_49 (by decide) (fun c => ?_) (fun c => ?_)
  · rw [if_pos c] at hq
    exact E_sub (ks := [1, 2, 0]) rfl <| t_Mo_readDeed_69 (by omega) hq
  · rw [if_neg c] at hq
    refine E_aln 1 d_Mo_readDeed_52 rfl rfl ?_
    refine E_iln 0 d_Mo_readDeed_53 rfl rfl ?_
    refine E_ic (v := 2) d_Mo_readDeed_54 (by decide) ?_
    refine E_bi (v := 6) d_Mo_readDeed_55 (by decide) ?_
    obtain ⟨q2, eq2, hq⟩ := bd hq
    obtain ⟨p1, ep1, hq⟩ := bd hq
    refine E_cV3I d_Mo_readDeed_57 ck_Mo_162 rfl rfl eq2 (Nat.le_of_ble_eq_true rfl) (Nat.le_of_ble_eq_true rfl) (t_Mo_isIn (by omega) ep1) ?_
    refine E_zne (tgt := 69) d_Mo_readDeed_60 (by decide) (fun c => ?_) (fun c => ?_)
    · rw [if_neg c] at hq
      exact E_sub (ks := [1, 2, 0]) rfl <| t_Mo_readDeed_69 (by omega) hq
    · rw [if_pos c] at hq
      refine E_aln 1 d_Mo_readDeed_63 rfl rfl ?_
      refine E_ic (v := 1) d_Mo_readDeed_64 (by decide) ?_
      obtain ⟨q4, eq4, hq⟩ := bd hq
      obtain ⟨p3, ep3, hq⟩ := bd hq
      refine E_cV1I d_Mo_readDeed_65 ck_Mo_227 rfl rfl eq4 (Nat.le_of_ble_eq_true rfl) (Nat.le_of_ble_eq_true rfl) (t_Mo_errs (by omega) ep3) ?_
      exact E_rI d_Mo_readDeed_68 rfl hq
def f_Mo_readDeed (a0 : Nat) (x1 : Int32) (h : PH) : Option (Int32 × PH) :=
  (ldR h 9 a0 39).bind fun v1 =>
  (isO h 9 a0).bind fun _ =>
  (f_Mo_readTold a0 19 0 999 h).bind fun p2 =>
  (wrA p2.2 v1 x1 p2.1).bind fun h4 =>
  (ldR h4 9 a0 39).bind fun v5 =>
  (rdA h4 v5 x1).bind fun v6 =>
  if v6 = (-1) then
    some ((-1), h4)
  else
    (ldI h4 9 a0 17).bind fun v7 =>
    if v7 = 2 then
      (ldI h4 9 a0 18).bind fun v8 =>
      f_Mo_readDeed_47 a0 x1 (v8 - 20) h4
    else
      f_Mo_readDeed_47 a0 x1 (-1) h4
theorem t_Mo_readDeed {d : Nat} (hd : 5 ≤ d) {a0 : Nat} {x1 : Int32} {h : PH} {r : Int32 × PH} (hq : f_Mo_readDeed a0 x1 h = some r) : E d 0 0 m_Mo_readDeed 0 [(0, .ref a0), (1, .int x1)] [] h (PI r) := by
  unfold f_Mo_readDeed at hq
  obtain ⟨d, rfl⟩ : ∃ e, d = e + 1 := ⟨d - 1, by omega⟩
  refine E_aln 0 d_Mo_readDeed_0 rfl rfl ?_
  obtain ⟨v1, ev1, hq⟩ := bd hq
  refine E_gR d_Mo_readDeed_1 lk_Mo_71 rfl ev1 ?_
  refine E_iln 1 d_Mo_readDeed_4 rfl rfl ?_
  refine E_aln 0 d_Mo_readDeed_5 rfl rfl ?_
  refine E_bi (v := 19) d_Mo_readDeed_6 (by decide) ?_
  refine E_ic (v := 0) d_Mo_readDeed_8 (by decide) ?_
  refine E_si (v := 999) d_Mo_readDeed_9 (by decide) ?_
  obtain ⟨q3, eq3, hq⟩ := bd hq
  obtain ⟨p2, ep2, hq⟩ := bd hq
  refine E_cV3I d_Mo_readDeed_12 ck_Mo_281 rfl rfl eq3 (Nat.le_of_ble_eq_true rfl) (Nat.le_of_ble_eq_true rfl) (t_Mo_readTold (by omega) ep2) ?_
  obtain ⟨h4, eh4, hq⟩ := bd hq
  refine E_wa d_Mo_readDeed_15 eh4 ?_
  refine E_aln 0 d_Mo_readDeed_16 rfl rfl ?_
  obtain ⟨v5, ev5, hq⟩ := bd hq
  refine E_gR d_Mo_readDeed_17 lk_Mo_71 rfl ev5 ?_
  refine E_iln 1 d_Mo_readDeed_20 rfl rfl ?_
  obtain ⟨v6, ev6, hq⟩ := bd hq
  refine E_ra d_Mo_readDeed_21 ev6 ?_
  refine E_ic (v := (-1)) d_Mo_readDeed_22 (by decide) ?_
  refine E_jne (tgt := 28) d_Mo_readDeed_23 (by decide) (fun c => ?_) (fun c => ?_)
  · rw [if_neg c] at hq
    refine E_aln 0 d_Mo_readDeed_28 rfl rfl ?_
    obtain ⟨v7, ev7, hq⟩ := bd hq
    refine E_gI d_Mo_readDeed_29 lk_Mo_196 rfl ev7 ?_
    refine E_ic (v := 2) d_Mo_readDeed_32 (by decide) ?_
    refine E_jne (tgt := 46) d_Mo_readDeed_33 (by decide) (fun c => ?_) (fun c => ?_)
    · rw [if_neg c] at hq
      refine E_ic (v := (-1)) d_Mo_readDeed_46 (by decide) ?_
      exact t_Mo_readDeed_47 (by omega) hq
    · rw [if_pos c] at hq
      refine E_aln 0 d_Mo_readDeed_36 rfl rfl ?_
      obtain ⟨v8, ev8, hq⟩ := bd hq
      refine E_gI d_Mo_readDeed_37 lk_Mo_199 rfl ev8 ?_
      refine E_bi (v := 20) d_Mo_readDeed_40 (by decide) ?_
      refine E_isub d_Mo_readDeed_42 ?_
      refine E_goto (tgt := 47) d_Mo_readDeed_43 (by decide) ?_
      exact t_Mo_readDeed_47 (by omega) hq
  · rw [if_pos c] at hq
    refine E_ic (v := (-1)) d_Mo_readDeed_26 (by decide) ?_
    exact E_rI d_Mo_readDeed_27 rfl hq
def f_Mo_readShifts_2 : Nat → Nat → Int32 → PH → Option (Int32 × PH)
  | 0, _, _, _ => none
  | n + 1, a0, x1, h =>
    (isO h 9 a0).bind fun _ =>
    (f_Mo_isWord a0 19 h).bind fun p1 =>
    if p1.1 = 0 then
      (ldI p1.2 9 a0 17).bind fun v3 =>
      if v3 = 0 then
        some (x1, p1.2)
      else
        (isO p1.2 9 a0).bind fun _ =>
        (f_Mo_errs a0 1 p1.2).bind fun p4 =>
        some (p4.1, p4.2)
    else
      if x1 = 16 then
        (isO p1.2 9 a0).bind fun _ =>
        (f_Mo_errs a0 3 p1.2).bind fun p8 =>
        some (p8.1, p8.2)
      else
        (isO p1.2 9 a0).bind fun _ =>
        (f_Mo_readDeed a0 (64 + (4 * x1)) p1.2).bind fun p6 =>
        if p6.1 = (-1) then
          some ((-1), p6.2)
        else
          f_Mo_readShifts_2 n a0 (x1 + 1) p6.2
theorem t_Mo_readShifts_2 {d : Nat} (hd : 6 ≤ d) : ∀ (n : Nat) (a0 : Nat) (x1 : Int32) (h : PH) (r : Int32 × PH), f_Mo_readShifts_2 n a0 x1 h = some r → E d 0 0 m_Mo_readShifts 2 [(0, .ref a0), (1, .int x1)] [] h (PI r) := by
  intro n
  induction n with
  | zero => intro a0 x1 h r hq; rw [f_Mo_readShifts_2] at hq; cases hq
  | succ n ih =>
    intro a0 x1 h r hq
    rw [f_Mo_readShifts_2] at hq
    obtain ⟨d, rfl⟩ : ∃ e, d = e + 1 := ⟨d - 1, by omega⟩
    refine E_aln 0 d_Mo_readShifts_2 rfl rfl ?_
    refine E_bi (v := 19) d_Mo_readShifts_3 (by decide) ?_
    obtain ⟨q2, eq2, hq⟩ := bd hq
    obtain ⟨p1, ep1, hq⟩ := bd hq
    refine E_cV1I d_Mo_readShifts_5 ck_Mo_256 rfl rfl eq2 (Nat.le_of_ble_eq_true rfl) (Nat.le_of_ble_eq_true rfl) (t_Mo_isWord (by omega) ep1) ?_
    refine E_zeq (tgt := 46) d_Mo_readShifts_8 (by decide) (fun c => ?_) (fun c => ?_)
    · rw [if_pos c] at hq
      refine E_aln 0 d_Mo_readShifts_46 rfl rfl ?_
      obtain ⟨v3, ev3, hq⟩ := bd hq
      refine E_gI d_Mo_readShifts_47 lk_Mo_196 rfl ev3 ?_
      refine E_zne (tgt := 57) d_Mo_readShifts_50 (by decide) (fun c => ?_) (fun c => ?_)
      · rw [if_neg c] at hq
        refine E_aln 0 d_Mo_readShifts_57 rfl rfl ?_
        refine E_ic (v := 1) d_Mo_readShifts_58 (by decide) ?_
        obtain ⟨q5, eq5, hq⟩ := bd hq
        obtain ⟨p4, ep4, hq⟩ := bd hq
        refine E_cV1I d_Mo_readShifts_59 ck_Mo_227 rfl rfl eq5 (Nat.le_of_ble_eq_true rfl) (Nat.le_of_ble_eq_true rfl) (t_Mo_errs (by omega) ep4) ?_
        exact E_rI d_Mo_readShifts_62 rfl hq
      · rw [if_pos c] at hq
        refine E_iln 1 d_Mo_readShifts_53 rfl rfl ?_
        refine E_goto (tgt := 62) d_Mo_readShifts_54 (by decide) ?_
        exact E_rI d_Mo_readShifts_62 rfl hq
    · rw [if_neg c] at hq
      refine E_iln 1 d_Mo_readShifts_11 rfl rfl ?_
      refine E_bi (v := 16) d_Mo_readShifts_12 (by decide) ?_
      refine E_jne (tgt := 23) d_Mo_readShifts_14 (by decide) (fun c => ?_) (fun c => ?_)
      · rw [if_neg c] at hq
        refine E_aln 0 d_Mo_readShifts_23 rfl rfl ?_
        refine E_bi (v := 64) d_Mo_readShifts_24 (by decide) ?_
        refine E_ic (v := 4) d_Mo_readShifts_26 (by decide) ?_
        refine E_iln 1 d_Mo_readShifts_27 rfl rfl ?_
        refine E_imul d_Mo_readShifts_28 ?_
        refine E_iadd d_Mo_readShifts_29 ?_
        obtain ⟨q7, eq7, hq⟩ := bd hq
        obtain ⟨p6, ep6, hq⟩ := bd hq
        refine E_cV1I d_Mo_readShifts_30 ck_Mo_294 rfl rfl eq7 (Nat.le_of_ble_eq_true rfl) (Nat.le_of_ble_eq_true rfl) (t_Mo_readDeed (by omega) ep6) ?_
        refine E_ic (v := (-1)) d_Mo_readShifts_33 (by decide) ?_
        refine E_jne (tgt := 39) d_Mo_readShifts_34 (by decide) (fun c => ?_) (fun c => ?_)
        · rw [if_neg c] at hq
          refine E_iln 1 d_Mo_readShifts_39 rfl rfl ?_
          refine E_ic (v := 1) d_Mo_readShifts_40 (by decide) ?_
          refine E_iadd d_Mo_readShifts_41 ?_
          refine E_isn (ls' := [(1, .int (x1 + 1)), (0, .ref a0)]) d_Mo_readShifts_42 (Nat.le_of_ble_eq_true rfl) rfl ?_
          refine E_goto (tgt := 2) d_Mo_readShifts_43 (by decide) ?_
          exact E_sub (ks := [1, 0]) rfl <| ih _ _ _ _ hq
        · rw [if_pos c] at hq
          refine E_ic (v := (-1)) d_Mo_readShifts_37 (by decide) ?_
          exact E_rI d_Mo_readShifts_38 rfl hq
      · rw [if_pos c] at hq
        refine E_aln 0 d_Mo_readShifts_17 rfl rfl ?_
        refine E_ic (v := 3) d_Mo_readShifts_18 (by decide) ?_
        obtain ⟨q9, eq9, hq⟩ := bd hq
        obtain ⟨p8, ep8, hq⟩ := bd hq
        refine E_cV1I d_Mo_readShifts_19 ck_Mo_227 rfl rfl eq9 (Nat.le_of_ble_eq_true rfl) (Nat.le_of_ble_eq_true rfl) (t_Mo_errs (by omega) ep8) ?_
        exact E_rI d_Mo_readShifts_22 rfl hq
def f_Mo_readShifts (a0 : Nat) (h : PH) : Option (Int32 × PH) :=
  f_Mo_readShifts_2 FU a0 0 h
theorem t_Mo_readShifts {d : Nat} (hd : 6 ≤ d) {a0 : Nat} {h : PH} {r : Int32 × PH} (hq : f_Mo_readShifts a0 h = some r) : E d 0 0 m_Mo_readShifts 0 [(0, .ref a0)] [] h (PI r) := by
  unfold f_Mo_readShifts at hq
  obtain ⟨d, rfl⟩ : ∃ e, d = e + 1 := ⟨d - 1, by omega⟩
  refine E_ic (v := 0) d_Mo_readShifts_0 (by decide) ?_
  refine E_isn (ls' := [(1, .int 0), (0, .ref a0)]) d_Mo_readShifts_1 (Nat.le_of_ble_eq_true rfl) rfl ?_
  exact E_sub (ks := [1, 0]) rfl <| t_Mo_readShifts_2 (by omega) _ _ _ _ _ hq
def f_Mo_readRoad_54 (a0 : Nat) (x1 : Int32) (h : PH) : Option (Int32 × PH) :=
  (ldR h 9 a0 41).bind fun v1 =>
  (isO h 9 a0).bind fun _ =>
  (f_Mo_readNumber a0 0 9 h).bind fun p2 =>
  (wrA p2.2 v1 (x1 + 1) p2.1).bind fun h4 =>
  (ldR h4 9 a0 41).bind fun v5 =>
  (rdA h4 v5 (x1 + 1)).bind fun v6 =>
  if v6 = (-1) then
    some ((-1), h4)
  else
    (ldR h4 9 a0 41).bind fun v7 =>
    (isO h4 9 a0).bind fun _ =>
    (f_Mo_readTold a0 28 0 99 h4).bind fun p8 =>
    (wrA p8.2 v7 (x1 + 2) p8.1).bind fun h10 =>
    (ldR h10 9 a0 41).bind fun v11 =>
    (rdA h10 v11 (x1 + 2)).bind fun v12 =>
    if v12 = (-1) then
      some ((-1), h10)
    else
      (ldR h10 9 a0 41).bind fun v13 =>
      (isO h10 9 a0).bind fun _ =>
      (f_Mo_readTold a0 9 0 99 h10).bind fun p14 =>
      (wrA p14.2 v13 (x1 + 3) p14.1).bind fun h16 =>
      (ldR h16 9 a0 41).bind fun v17 =>
      (rdA h16 v17 (x1 + 3)).bind fun v18 =>
      if v18 = (-1) then
        some ((-1), h16)
      else
        (isO h16 9 a0).bind fun _ =>
        (f_Mo_readMark a0 59 h16).bind fun p19 =>
        some (p19.1, p19.2)
theorem t_Mo_readRoad_54 {d : Nat} (hd : 5 ≤ d) {a0 : Nat} {x1 : Int32} {h : PH} {r : Int32 × PH} (hq : f_Mo_readRoad_54 a0 x1 h = some r) : E d 0 0 m_Mo_readRoad 54 [(0, .ref a0), (1, .int x1)] [] h (PI r) := by
  unfold f_Mo_readRoad_54 at hq
  obtain ⟨d, rfl⟩ : ∃ e, d = e + 1 := ⟨d - 1, by omega⟩
  refine E_aln 0 d_Mo_readRoad_54 rfl rfl ?_
  obtain ⟨v1, ev1, hq⟩ := bd hq
  refine E_gR d_Mo_readRoad_55 lk_Mo_74 rfl ev1 ?_
  refine E_iln 1 d_Mo_readRoad_58 rfl rfl ?_
  refine E_ic (v := 1) d_Mo_readRoad_59 (by decide) ?_
  refine E_iadd d_Mo_readRoad_60 ?_
  refine E_aln 0 d_Mo_readRoad_61 rfl rfl ?_
  refine E_ic (v := 0) d_Mo_readRoad_62 (by decide) ?_
  refine E_bi (v := 9) d_Mo_readRoad_63 (by decide) ?_
  obtain ⟨q3, eq3, hq⟩ := bd hq
  obtain ⟨p2, ep2, hq⟩ := bd hq
  refine E_cV2I d_Mo_readRoad_65 ck_Mo_278 rfl rfl eq3 (Nat.le_of_ble_eq_true rfl) (Nat.le_of_ble_eq_true rfl) (t_Mo_readNumber (by omega) ep2) ?_
  obtain ⟨h4, eh4, hq⟩ := bd hq
  refine E_wa d_Mo_readRoad_68 eh4 ?_
  refine E_aln 0 d_Mo_readRoad_69 rfl rfl ?_
  obtain ⟨v5, ev5, hq⟩ := bd hq
  refine E_gR d_Mo_readRoad_70 lk_Mo_74 rfl ev5 ?_
  refine E_iln 1 d_Mo_readRoad_73 rfl rfl ?_
  refine E_ic (v := 1) d_Mo_readRoad_74 (by decide) ?_
  refine E_iadd d_Mo_readRoad_75 ?_
  obtain ⟨v6, ev6, hq⟩ := bd hq
  refine E_ra d_Mo_readRoad_76 ev6 ?_
  refine E_ic (v := (-1)) d_Mo_readRoad_77 (by decide) ?_
  refine E_jne (tgt := 83) d_Mo_readRoad_78 (by decide) (fun c => ?_) (fun c => ?_)
  · rw [if_neg c] at hq
    refine E_aln 0 d_Mo_readRoad_83 rfl rfl ?_
    obtain ⟨v7, ev7, hq⟩ := bd hq
    refine E_gR d_Mo_readRoad_84 lk_Mo_74 rfl ev7 ?_
    refine E_iln 1 d_Mo_readRoad_87 rfl rfl ?_
    refine E_ic (v := 2) d_Mo_readRoad_88 (by decide) ?_
    refine E_iadd d_Mo_readRoad_89 ?_
    refine E_aln 0 d_Mo_readRoad_90 rfl rfl ?_
    refine E_bi (v := 28) d_Mo_readRoad_91 (by decide) ?_
    refine E_ic (v := 0) d_Mo_readRoad_93 (by decide) ?_
    refine E_bi (v := 99) d_Mo_readRoad_94 (by decide) ?_
    obtain ⟨q9, eq9, hq⟩ := bd hq
    obtain ⟨p8, ep8, hq⟩ := bd hq
    refine E_cV3I d_Mo_readRoad_96 ck_Mo_281 rfl rfl eq9 (Nat.le_of_ble_eq_true rfl) (Nat.le_of_ble_eq_true rfl) (t_Mo_readTold (by omega) ep8) ?_
    obtain ⟨h10, eh10, hq⟩ := bd hq
    refine E_wa d_Mo_readRoad_99 eh10 ?_
    refine E_aln 0 d_Mo_readRoad_100 rfl rfl ?_
    obtain ⟨v11, ev11, hq⟩ := bd hq
    refine E_gR d_Mo_readRoad_101 lk_Mo_74 rfl ev11 ?_
    refine E_iln 1 d_Mo_readRoad_104 rfl rfl ?_
    refine E_ic (v := 2) d_Mo_readRoad_105 (by decide) ?_
    refine E_iadd d_Mo_readRoad_106 ?_
    obtain ⟨v12, ev12, hq⟩ := bd hq
    refine E_ra d_Mo_readRoad_107 ev12 ?_
    refine E_ic (v := (-1)) d_Mo_readRoad_108 (by decide) ?_
    refine E_jne (tgt := 114) d_Mo_readRoad_109 (by decide) (fun c => ?_) (fun c => ?_)
    · rw [if_neg c] at hq
      refine E_aln 0 d_Mo_readRoad_114 rfl rfl ?_
      obtain ⟨v13, ev13, hq⟩ := bd hq
      refine E_gR d_Mo_readRoad_115 lk_Mo_74 rfl ev13 ?_
      refine E_iln 1 d_Mo_readRoad_118 rfl rfl ?_
      refine E_ic (v := 3) d_Mo_readRoad_119 (by decide) ?_
      refine E_iadd d_Mo_readRoad_120 ?_
      refine E_aln 0 d_Mo_readRoad_121 rfl rfl ?_
      refine E_bi (v := 9) d_Mo_readRoad_122 (by decide) ?_
      refine E_ic (v := 0) d_Mo_readRoad_124 (by decide) ?_
      refine E_bi (v := 99) d_Mo_readRoad_125 (by decide) ?_
      obtain ⟨q15, eq15, hq⟩ := bd hq
      obtain ⟨p14, ep14, hq⟩ := bd hq
      refine E_cV3I d_Mo_readRoad_127 ck_Mo_281 rfl rfl eq15 (Nat.le_of_ble_eq_true rfl) (Nat.le_of_ble_eq_true rfl) (t_Mo_readTold (by omega) ep14) ?_
      obtain ⟨h16, eh16, hq⟩ := bd hq
      refine E_wa d_Mo_readRoad_130 eh16 ?_
      refine E_aln 0 d_Mo_readRoad_131 rfl rfl ?_
      obtain ⟨v17, ev17, hq⟩ := bd hq
      refine E_gR d_Mo_readRoad_132 lk_Mo_74 rfl ev17 ?_
      refine E_iln 1 d_Mo_readRoad_135 rfl rfl ?_
      refine E_ic (v := 3) d_Mo_readRoad_136 (by decide) ?_
      refine E_iadd d_Mo_readRoad_137 ?_
      obtain ⟨v18, ev18, hq⟩ := bd hq
      refine E_ra d_Mo_readRoad_138 ev18 ?_
      refine E_ic (v := (-1)) d_Mo_readRoad_139 (by decide) ?_
      refine E_jne (tgt := 147) d_Mo_readRoad_140 (by decide) (fun c => ?_) (fun c => ?_)
      · rw [if_neg c] at hq
        refine E_aln 0 d_Mo_readRoad_147 rfl rfl ?_
        refine E_bi (v := 59) d_Mo_readRoad_148 (by decide) ?_
        obtain ⟨q20, eq20, hq⟩ := bd hq
        obtain ⟨p19, ep19, hq⟩ := bd hq
        refine E_cV1I d_Mo_readRoad_150 ck_Mo_285 rfl rfl eq20 (Nat.le_of_ble_eq_true rfl) (Nat.le_of_ble_eq_true rfl) (t_Mo_readMark (by omega) ep19) ?_
        exact E_rI d_Mo_readRoad_153 rfl hq
      · rw [if_pos c] at hq
        refine E_ic (v := (-1)) d_Mo_readRoad_143 (by decide) ?_
        refine E_goto (tgt := 153) d_Mo_readRoad_144 (by decide) ?_
        exact E_rI d_Mo_readRoad_153 rfl hq
    · rw [if_pos c] at hq
      refine E_ic (v := (-1)) d_Mo_readRoad_112 (by decide) ?_
      exact E_rI d_Mo_readRoad_113 rfl hq
  · rw [if_pos c] at hq
    refine E_ic (v := (-1)) d_Mo_readRoad_81 (by decide) ?_
    exact E_rI d_Mo_readRoad_82 rfl hq
def f_Mo_readRoad (a0 : Nat) (x1 : Int32) (h : PH) : Option (Int32 × PH) :=
  (ldR h 9 a0 41).bind fun v1 =>
  (isO h 9 a0).bind fun _ =>
  (f_Mo_readTold a0 27 0 9 h).bind fun p2 =>
  (wrA p2.2 v1 x1 p2.1).bind fun h4 =>
  (ldR h4 9 a0 41).bind fun v5 =>
  (rdA h4 v5 x1).bind fun v6 =>
  if v6 = (-1) then
    some ((-1), h4)
  else
    (ldI h4 9 a0 17).bind fun v7 =>
    if v7 = 3 then
      (ldI h4 9 a0 18).bind fun v8 =>
      (ldR h4 9 a0 41).bind fun v9 =>
      (rdA h4 v9 x1).bind fun v10 =>
      if v8 = v10 then
        (isO h4 9 a0).bind fun _ =>
        (f_Mo_errs a0 2 h4).bind fun p11 =>
        some (p11.1, p11.2)
      else
        f_Mo_readRoad_54 a0 x1 h4
    else
      f_Mo_readRoad_54 a0 x1 h4
theorem t_Mo_readRoad {d : Nat} (hd : 5 ≤ d) {a0 : Nat} {x1 : Int32} {h : PH} {r : Int32 × PH} (hq : f_Mo_readRoad a0 x1 h = some r) : E d 0 0 m_Mo_readRoad 0 [(0, .ref a0), (1, .int x1)] [] h (PI r) := by
  unfold f_Mo_readRoad at hq
  obtain ⟨d, rfl⟩ : ∃ e, d = e + 1 := ⟨d - 1, by omega⟩
  refine E_aln 0 d_Mo_readRoad_0 rfl rfl ?_
  obtain ⟨v1, ev1, hq⟩ := bd hq
  refine E_gR d_Mo_readRoad_1 lk_Mo_74 rfl ev1 ?_
  refine E_iln 1 d_Mo_readRoad_4 rfl rfl ?_
  refine E_aln 0 d_Mo_readRoad_5 rfl rfl ?_
  refine E_bi (v := 27) d_Mo_readRoad_6 (by decide) ?_
  refine E_ic (v := 0) d_Mo_readRoad_8 (by decide) ?_
  refine E_bi (v := 9) d_Mo_readRoad_9 (by decide) ?_
  obtain ⟨q3, eq3, hq⟩ := bd hq
  obtain ⟨p2, ep2, hq⟩ := bd hq
  refine E_cV3I d_Mo_readRoad_11 ck_Mo_281 rfl rfl eq3 (Nat.le_of_ble_eq_true rfl) (Nat.le_of_ble_eq_true rfl) (t_Mo_readTold (by omega) ep2) ?_
  obtain ⟨h4, eh4, hq⟩ := bd hq
  refine E_wa d_Mo_readRoad_14 eh4 ?_
  refine E_aln 0 d_Mo_readRoad_15 rfl rfl ?_
  obtain ⟨v5, ev5, hq⟩ := bd hq
  refine E_gR d_Mo_readRoad_16 lk_Mo_74 rfl ev5 ?_
  refine E_iln 1 d_Mo_readRoad_19 rfl rfl ?_
  obtain ⟨v6, ev6, hq⟩ := bd hq
  refine E_ra d_Mo_readRoad_20 ev6 ?_
  refine E_ic (v := (-1)) d_Mo_readRoad_21 (by decide) ?_
  refine E_jne (tgt := 27) d_Mo_readRoad_22 (by decide) (fun c => ?_) (fun c => ?_)
  · rw [if_neg c] at hq
    refine E_aln 0 d_Mo_readRoad_27 rfl rfl ?_
    obtain ⟨v7, ev7, hq⟩ := bd hq
    refine E_gI d_Mo_readRoad_28 lk_Mo_196 rfl ev7 ?_
    refine E_ic (v := 3) d_Mo_readRoad_31 (by decide) ?_
    refine E_jne (tgt := 54) d_Mo_readRoad_32 (by decide) (fun c => ?_) (fun c => ?_)
    · rw [if_neg c] at hq
      exact t_Mo_readRoad_54 (by omega) hq
    · rw [if_pos c] at hq
      refine E_aln 0 d_Mo_readRoad_35 rfl rfl ?_
      obtain ⟨v8, ev8, hq⟩ := bd hq
      refine E_gI d_Mo_readRoad_36 lk_Mo_199 rfl ev8 ?_
      refine E_aln 0 d_Mo_readRoad_39 rfl rfl ?_
      obtain ⟨v9, ev9, hq⟩ := bd hq
      refine E_gR d_Mo_readRoad_40 lk_Mo_74 rfl ev9 ?_
      refine E_iln 1 d_Mo_readRoad_43 rfl rfl ?_
      obtain ⟨v10, ev10, hq⟩ := bd hq
      refine E_ra d_Mo_readRoad_44 ev10 ?_
      refine E_jne (tgt := 54) d_Mo_readRoad_45 (by decide) (fun c => ?_) (fun c => ?_)
      · rw [if_neg c] at hq
        exact t_Mo_readRoad_54 (by omega) hq
      · rw [if_pos c] at hq
        refine E_aln 0 d_Mo_readRoad_48 rfl rfl ?_
        refine E_ic (v := 2) d_Mo_readRoad_49 (by decide) ?_
        obtain ⟨q12, eq12, hq⟩ := bd hq
        obtain ⟨p11, ep11, hq⟩ := bd hq
        refine E_cV1I d_Mo_readRoad_50 ck_Mo_227 rfl rfl eq12 (Nat.le_of_ble_eq_true rfl) (Nat.le_of_ble_eq_true rfl) (t_Mo_errs (by omega) ep11) ?_
        exact E_rI d_Mo_readRoad_53 rfl hq
  · rw [if_pos c] at hq
    refine E_ic (v := (-1)) d_Mo_readRoad_25 (by decide) ?_
    exact E_rI d_Mo_readRoad_26 rfl hq
def f_Mo_readRoads_2 : Nat → Nat → Int32 → PH → Option (Int32 × PH)
  | 0, _, _, _ => none
  | n + 1, a0, x1, h =>
    (isO h 9 a0).bind fun _ =>
    (f_Mo_isWord a0 27 h).bind fun p1 =>
    if p1.1 = 0 then
      (ldI p1.2 9 a0 17).bind fun v3 =>
      if v3 = 0 then
        some (x1, p1.2)
      else
        (isO p1.2 9 a0).bind fun _ =>
        (f_Mo_errs a0 1 p1.2).bind fun p4 =>
        some (p4.1, p4.2)
    else
      if x1 = 16 then
        (isO p1.2 9 a0).bind fun _ =>
        (f_Mo_errs a0 3 p1.2).bind fun p8 =>
        some (p8.1, p8.2)
      else
        (isO p1.2 9 a0).bind fun _ =>
        (f_Mo_readRoad a0 (64 + (4 * x1)) p1.2).bind fun p6 =>
        if p6.1 = (-1) then
          some ((-1), p6.2)
        else
          f_Mo_readRoads_2 n a0 (x1 + 1) p6.2
theorem t_Mo_readRoads_2 {d : Nat} (hd : 6 ≤ d) : ∀ (n : Nat) (a0 : Nat) (x1 : Int32) (h : PH) (r : Int32 × PH), f_Mo_readRoads_2 n a0 x1 h = some r → E d 0 0 m_Mo_readRoads 2 [(0, .ref a0), (1, .int x1)] [] h (PI r) := by
  intro n
  induction n with
  | zero => intro a0 x1 h r hq; rw [f_Mo_readRoads_2] at hq; cases hq
  | succ n ih =>
    intro a0 x1 h r hq
    rw [f_Mo_readRoads_2] at hq
    obtain ⟨d, rfl⟩ : ∃ e, d = e + 1 := ⟨d - 1, by omega⟩
    refine E_aln 0 d_Mo_readRoads_2 rfl rfl ?_
    refine E_bi (v := 27) d_Mo_readRoads_3 (by decide) ?_
    obtain ⟨q2, eq2, hq⟩ := bd hq
    obtain ⟨p1, ep1, hq⟩ := bd hq
    refine E_cV1I d_Mo_readRoads_5 ck_Mo_256 rfl rfl eq2 (Nat.le_of_ble_eq_true rfl) (Nat.le_of_ble_eq_true rfl) (t_Mo_isWord (by omega) ep1) ?_
    refine E_zeq (tgt := 46) d_Mo_readRoads_8 (by decide) (fun c => ?_) (fun c => ?_)
    · rw [if_pos c] at hq
      refine E_aln 0 d_Mo_readRoads_46 rfl rfl ?_
      obtain ⟨v3, ev3, hq⟩ := bd hq
      refine E_gI d_Mo_readRoads_47 lk_Mo_196 rfl ev3 ?_
      refine E_zne (tgt := 57) d_Mo_readRoads_50 (by decide) (fun c => ?_) (fun c => ?_)
      · rw [if_neg c] at hq
        refine E_aln 0 d_Mo_readRoads_57 rfl rfl ?_
        refine E_ic (v := 1) d_Mo_readRoads_58 (by decide) ?_
        obtain ⟨q5, eq5, hq⟩ := bd hq
        obtain ⟨p4, ep4, hq⟩ := bd hq
        refine E_cV1I d_Mo_readRoads_59 ck_Mo_227 rfl rfl eq5 (Nat.le_of_ble_eq_true rfl) (Nat.le_of_ble_eq_true rfl) (t_Mo_errs (by omega) ep4) ?_
        exact E_rI d_Mo_readRoads_62 rfl hq
      · rw [if_pos c] at hq
        refine E_iln 1 d_Mo_readRoads_53 rfl rfl ?_
        refine E_goto (tgt := 62) d_Mo_readRoads_54 (by decide) ?_
        exact E_rI d_Mo_readRoads_62 rfl hq
    · rw [if_neg c] at hq
      refine E_iln 1 d_Mo_readRoads_11 rfl rfl ?_
      refine E_bi (v := 16) d_Mo_readRoads_12 (by decide) ?_
      refine E_jne (tgt := 23) d_Mo_readRoads_14 (by decide) (fun c => ?_) (fun c => ?_)
      · rw [if_neg c] at hq
        refine E_aln 0 d_Mo_readRoads_23 rfl rfl ?_
        refine E_bi (v := 64) d_Mo_readRoads_24 (by decide) ?_
        refine E_ic (v := 4) d_Mo_readRoads_26 (by decide) ?_
        refine E_iln 1 d_Mo_readRoads_27 rfl rfl ?_
        refine E_imul d_Mo_readRoads_28 ?_
        refine E_iadd d_Mo_readRoads_29 ?_
        obtain ⟨q7, eq7, hq⟩ := bd hq
        obtain ⟨p6, ep6, hq⟩ := bd hq
        refine E_cV1I d_Mo_readRoads_30 ck_Mo_297 rfl rfl eq7 (Nat.le_of_ble_eq_true rfl) (Nat.le_of_ble_eq_true rfl) (t_Mo_readRoad (by omega) ep6) ?_
        refine E_ic (v := (-1)) d_Mo_readRoads_33 (by decide) ?_
        refine E_jne (tgt := 39) d_Mo_readRoads_34 (by decide) (fun c => ?_) (fun c => ?_)
        · rw [if_neg c] at hq
          refine E_iln 1 d_Mo_readRoads_39 rfl rfl ?_
          refine E_ic (v := 1) d_Mo_readRoads_40 (by decide) ?_
          refine E_iadd d_Mo_readRoads_41 ?_
          refine E_isn (ls' := [(1, .int (x1 + 1)), (0, .ref a0)]) d_Mo_readRoads_42 (Nat.le_of_ble_eq_true rfl) rfl ?_
          refine E_goto (tgt := 2) d_Mo_readRoads_43 (by decide) ?_
          exact E_sub (ks := [1, 0]) rfl <| ih _ _ _ _ hq
        · rw [if_pos c] at hq
          refine E_ic (v := (-1)) d_Mo_readRoads_37 (by decide) ?_
          exact E_rI d_Mo_readRoads_38 rfl hq
      · rw [if_pos c] at hq
        refine E_aln 0 d_Mo_readRoads_17 rfl rfl ?_
        refine E_ic (v := 3) d_Mo_readRoads_18 (by decide) ?_
        obtain ⟨q9, eq9, hq⟩ := bd hq
        obtain ⟨p8, ep8, hq⟩ := bd hq
        refine E_cV1I d_Mo_readRoads_19 ck_Mo_227 rfl rfl eq9 (Nat.le_of_ble_eq_true rfl) (Nat.le_of_ble_eq_true rfl) (t_Mo_errs (by omega) ep8) ?_
        exact E_rI d_Mo_readRoads_22 rfl hq
def f_Mo_readRoads (a0 : Nat) (h : PH) : Option (Int32 × PH) :=
  f_Mo_readRoads_2 FU a0 0 h
theorem t_Mo_readRoads {d : Nat} (hd : 6 ≤ d) {a0 : Nat} {h : PH} {r : Int32 × PH} (hq : f_Mo_readRoads a0 h = some r) : E d 0 0 m_Mo_readRoads 0 [(0, .ref a0)] [] h (PI r) := by
  unfold f_Mo_readRoads at hq
  obtain ⟨d, rfl⟩ : ∃ e, d = e + 1 := ⟨d - 1, by omega⟩
  refine E_ic (v := 0) d_Mo_readRoads_0 (by decide) ?_
  refine E_isn (ls' := [(1, .int 0), (0, .ref a0)]) d_Mo_readRoads_1 (Nat.le_of_ble_eq_true rfl) rfl ?_
  exact E_sub (ks := [1, 0]) rfl <| t_Mo_readRoads_2 (by omega) _ _ _ _ _ hq
def f_Mo_isLineWord (a0 : Nat) (h : PH) : Option (Int32 × PH) :=
  (ldI h 9 a0 17).bind fun v1 =>
  if v1 = 2 then
    (ldI h 9 a0 18).bind fun v2 =>
    (isO h 9 a0).bind fun _ =>
    (f_Mo_isIn a0 v2 0 2 h).bind fun p3 =>
    if p3.1 = 0 then
      rtZ 0 p3.2
    else
      rtZ 1 p3.2
  else
    rtZ 0 h
theorem t_Mo_isLineWord {d : Nat} (hd : 1 ≤ d) {a0 : Nat} {h : PH} {r : Int32 × PH} (hq : f_Mo_isLineWord a0 h = some r) : E d 0 0 m_Mo_isLineWord 0 [(0, .ref a0)] [] h (PI r) := by
  unfold f_Mo_isLineWord at hq
  obtain ⟨d, rfl⟩ : ∃ e, d = e + 1 := ⟨d - 1, by omega⟩
  refine E_aln 0 d_Mo_isLineWord_0 rfl rfl ?_
  obtain ⟨v1, ev1, hq⟩ := bd hq
  refine E_gI d_Mo_isLineWord_1 lk_Mo_196 rfl ev1 ?_
  refine E_ic (v := 2) d_Mo_isLineWord_4 (by decide) ?_
  refine E_jne (tgt := 25) d_Mo_isLineWord_5 (by decide) (fun c => ?_) (fun c => ?_)
  · rw [if_neg c] at hq
    refine E_ic (v := 0) d_Mo_isLineWord_25 (by decide) ?_
    exact E_rZ d_Mo_isLineWord_26 rfl hq
  · rw [if_pos c] at hq
    refine E_aln 0 d_Mo_isLineWord_8 rfl rfl ?_
    refine E_aln 0 d_Mo_isLineWord_9 rfl rfl ?_
    obtain ⟨v2, ev2, hq⟩ := bd hq
    refine E_gI d_Mo_isLineWord_10 lk_Mo_199 rfl ev2 ?_
    refine E_ic (v := 0) d_Mo_isLineWord_13 (by decide) ?_
    refine E_ic (v := 2) d_Mo_isLineWord_14 (by decide) ?_
    obtain ⟨q4, eq4, hq⟩ := bd hq
    obtain ⟨p3, ep3, hq⟩ := bd hq
    refine E_cV3I d_Mo_isLineWord_15 ck_Mo_162 rfl rfl eq4 (Nat.le_of_ble_eq_true rfl) (Nat.le_of_ble_eq_true rfl) (t_Mo_isIn (by omega) ep3) ?_
    refine E_zeq (tgt := 25) d_Mo_isLineWord_18 (by decide) (fun c => ?_) (fun c => ?_)
    · rw [if_pos c] at hq
      refine E_ic (v := 0) d_Mo_isLineWord_25 (by decide) ?_
      exact E_rZ d_Mo_isLineWord_26 rfl hq
    · rw [if_neg c] at hq
      refine E_ic (v := 1) d_Mo_isLineWord_21 (by decide) ?_
      refine E_goto (tgt := 26) d_Mo_isLineWord_22 (by decide) ?_
      exact E_rZ d_Mo_isLineWord_26 rfl hq
def f_Mo_canAsk (a0 : Nat) (x1 : Int32) (h : PH) : Option (Int32 × PH) :=
  (isO h 9 a0).bind fun _ =>
  (f_Mo_isIn a0 x1 7 16 h).bind fun p1 =>
  rtZ p1.1 p1.2
theorem t_Mo_canAsk {d : Nat} (hd : 1 ≤ d) {a0 : Nat} {x1 : Int32} {h : PH} {r : Int32 × PH} (hq : f_Mo_canAsk a0 x1 h = some r) : E d 0 0 m_Mo_canAsk 0 [(0, .ref a0), (1, .int x1)] [] h (PI r) := by
  unfold f_Mo_canAsk at hq
  obtain ⟨d, rfl⟩ : ∃ e, d = e + 1 := ⟨d - 1, by omega⟩
  refine E_aln 0 d_Mo_canAsk_0 rfl rfl ?_
  refine E_iln 1 d_Mo_canAsk_1 rfl rfl ?_
  refine E_bi (v := 7) d_Mo_canAsk_2 (by decide) ?_
  refine E_bi (v := 16) d_Mo_canAsk_4 (by decide) ?_
  obtain ⟨q2, eq2, hq⟩ := bd hq
  obtain ⟨p1, ep1, hq⟩ := bd hq
  refine E_cV3I d_Mo_canAsk_6 ck_Mo_162 rfl rfl eq2 (Nat.le_of_ble_eq_true rfl) (Nat.le_of_ble_eq_true rfl) (t_Mo_isIn (by omega) ep1) ?_
  exact E_rZ d_Mo_canAsk_9 rfl hq
def f_Mo_emits (a0 : Nat) (x1 : Int32) (x2 : Int32) (h : PH) : Option (PH) :=
  (ldR h 9 a0 25).bind fun v1 =>
  (ldI h 9 a0 28).bind fun v2 =>
  (wrA h v1 (800 + v2) x1).bind fun h3 =>
  (ldR h3 9 a0 26).bind fun v4 =>
  (ldI h3 9 a0 28).bind fun v5 =>
  (wrA h3 v4 (800 + v5) x2).bind fun h6 =>
  (ldI h6 9 a0 28).bind fun v7 =>
  (stI h6 9 a0 28 (v7 + 1)).bind fun h8 =>
  some h8
theorem t_Mo_emits {d : Nat} (hd : 0 ≤ d) {a0 : Nat} {x1 : Int32} {x2 : Int32} {h : PH} {r : PH} (hq : f_Mo_emits a0 x1 x2 h = some r) : E d 0 0 m_Mo_emits 0 [(0, .ref a0), (1, .int x1), (2, .int x2)] [] h (PV r) := by
  unfold f_Mo_emits at hq
  refine E_aln 0 d_Mo_emits_0 rfl rfl ?_
  obtain ⟨v1, ev1, hq⟩ := bd hq
  refine E_gR d_Mo_emits_1 lk_Mo_55 rfl ev1 ?_
  refine E_si (v := 800) d_Mo_emits_4 (by decide) ?_
  refine E_aln 0 d_Mo_emits_7 rfl rfl ?_
  obtain ⟨v2, ev2, hq⟩ := bd hq
  refine E_gI d_Mo_emits_8 lk_Mo_221 rfl ev2 ?_
  refine E_iadd d_Mo_emits_11 ?_
  refine E_iln 1 d_Mo_emits_12 rfl rfl ?_
  obtain ⟨h3, eh3, hq⟩ := bd hq
  refine E_wa d_Mo_emits_13 eh3 ?_
  refine E_aln 0 d_Mo_emits_14 rfl rfl ?_
  obtain ⟨v4, ev4, hq⟩ := bd hq
  refine E_gR d_Mo_emits_15 lk_Mo_58 rfl ev4 ?_
  refine E_si (v := 800) d_Mo_emits_18 (by decide) ?_
  refine E_aln 0 d_Mo_emits_21 rfl rfl ?_
  obtain ⟨v5, ev5, hq⟩ := bd hq
  refine E_gI d_Mo_emits_22 lk_Mo_221 rfl ev5 ?_
  refine E_iadd d_Mo_emits_25 ?_
  refine E_iln 2 d_Mo_emits_26 rfl rfl ?_
  obtain ⟨h6, eh6, hq⟩ := bd hq
  refine E_wa d_Mo_emits_27 eh6 ?_
  refine E_aln 0 d_Mo_emits_28 rfl rfl ?_
  refine E_aln 0 d_Mo_emits_29 rfl rfl ?_
  obtain ⟨v7, ev7, hq⟩ := bd hq
  refine E_gI d_Mo_emits_30 lk_Mo_221 rfl ev7 ?_
  refine E_ic (v := 1) d_Mo_emits_33 (by decide) ?_
  refine E_iadd d_Mo_emits_34 ?_
  obtain ⟨h8, eh8, hq⟩ := bd hq
  refine E_pI d_Mo_emits_35 lp_Mo_m_221 rfl eh8 ?_
  exact E_rV d_Mo_emits_38 rfl hq
def f_Mo_readUnit_71 (a0 : Nat) (s0 : Int32) (s1 : Int32) (s2 : Nat) (h : PH) : Option (Int32 × PH) :=
  (isO h 9 s2).bind fun _ =>
  (f_Mo_emits s2 s1 s0 h).bind fun h1 =>
  (isO h1 9 a0).bind fun _ =>
  (f_Mo_reads a0  h1).bind fun h3 =>
  some (0, h3)
theorem t_Mo_readUnit_71 {d : Nat} (hd : 3 ≤ d) {a0 : Nat} {s0 : Int32} {s1 : Int32} {s2 : Nat} {h : PH} {r : Int32 × PH} (hq : f_Mo_readUnit_71 a0 s0 s1 s2 h = some r) : E d 0 0 m_Mo_readUnit 71 [(0, .ref a0)] [.int s0, .int s1, .ref s2] h (PI r) := by
  unfold f_Mo_readUnit_71 at hq
  obtain ⟨d, rfl⟩ : ∃ e, d = e + 1 := ⟨d - 1, by omega⟩
  obtain ⟨q2, eq2, hq⟩ := bd hq
  obtain ⟨h1, eh1, hq⟩ := bd hq
  refine E_cV2V d_Mo_readUnit_71 ck_Mo_230 rfl rfl eq2 (Nat.le_of_ble_eq_true rfl) (Nat.le_of_ble_eq_true rfl) (t_Mo_emits (by omega) eh1) ?_
  refine E_aln 0 d_Mo_readUnit_74 rfl rfl ?_
  obtain ⟨q4, eq4, hq⟩ := bd hq
  obtain ⟨h3, eh3, hq⟩ := bd hq
  refine E_cV0V d_Mo_readUnit_75 ck_Mo_234 rfl rfl eq4 (Nat.le_of_ble_eq_true rfl) (Nat.le_of_ble_eq_true rfl) (t_Mo_reads (by omega) eh3) ?_
  refine E_ic (v := 0) d_Mo_readUnit_78 (by decide) ?_
  exact E_rI d_Mo_readUnit_79 rfl hq
def f_Mo_readUnit_53 (a0 : Nat) (x1 : Int32) (s0 : Int32) (s1 : Nat) (h : PH) : Option (Int32 × PH) :=
  if x1 = 0 then
    (ldI h 9 a0 18).bind fun v1 =>
    f_Mo_readUnit_71 a0 v1 s0 s1 h
  else
    (ldI h 9 a0 18).bind fun v2 =>
    f_Mo_readUnit_71 a0 (v2 - 7) s0 s1 h
theorem t_Mo_readUnit_53 {d : Nat} (hd : 3 ≤ d) {a0 : Nat} {x1 : Int32} {s0 : Int32} {s1 : Nat} {h : PH} {r : Int32 × PH} (hq : f_Mo_readUnit_53 a0 x1 s0 s1 h = some r) : E d 0 0 m_Mo_readUnit 53 [(0, .ref a0), (1, .int x1)] [.int s0, .ref s1] h (PI r) := by
  unfold f_Mo_readUnit_53 at hq
  obtain ⟨d, rfl⟩ : ∃ e, d = e + 1 := ⟨d - 1, by omega⟩
  refine E_iln 1 d_Mo_readUnit_53 rfl rfl ?_
  refine E_zeq (tgt := 67) d_Mo_readUnit_54 (by decide) (fun c => ?_) (fun c => ?_)
  · rw [if_pos c] at hq
    refine E_aln 0 d_Mo_readUnit_67 rfl rfl ?_
    obtain ⟨v1, ev1, hq⟩ := bd hq
    refine E_gI d_Mo_readUnit_68 lk_Mo_199 rfl ev1 ?_
    exact E_sub (ks := [0]) rfl <| t_Mo_readUnit_71 (by omega) hq
  · rw [if_neg c] at hq
    refine E_aln 0 d_Mo_readUnit_57 rfl rfl ?_
    obtain ⟨v2, ev2, hq⟩ := bd hq
    refine E_gI d_Mo_readUnit_58 lk_Mo_199 rfl ev2 ?_
    refine E_bi (v := 7) d_Mo_readUnit_61 (by decide) ?_
    refine E_isub d_Mo_readUnit_63 ?_
    refine E_goto (tgt := 71) d_Mo_readUnit_64 (by decide) ?_
    exact E_sub (ks := [0]) rfl <| t_Mo_readUnit_71 (by omega) hq
def f_Mo_readUnit_43 (a0 : Nat) (x1 : Int32) (h : PH) : Option (Int32 × PH) :=
  if x1 = 0 then
    f_Mo_readUnit_53 a0 x1 0 a0 h
  else
    f_Mo_readUnit_53 a0 x1 1 a0 h
theorem t_Mo_readUnit_43 {d : Nat} (hd : 3 ≤ d) {a0 : Nat} {x1 : Int32} {h : PH} {r : Int32 × PH} (hq : f_Mo_readUnit_43 a0 x1 h = some r) : E d 0 0 m_Mo_readUnit 43 [(0, .ref a0), (1, .int x1)] [] h (PI r) := by
  unfold f_Mo_readUnit_43 at hq
  obtain ⟨d, rfl⟩ : ∃ e, d = e + 1 := ⟨d - 1, by omega⟩
  refine E_aln 0 d_Mo_readUnit_43 rfl rfl ?_
  refine E_iln 1 d_Mo_readUnit_44 rfl rfl ?_
  refine E_zeq (tgt := 52) d_Mo_readUnit_45 (by decide) (fun c => ?_) (fun c => ?_)
  · rw [if_pos c] at hq
    refine E_ic (v := 0) d_Mo_readUnit_52 (by decide) ?_
    exact t_Mo_readUnit_53 (by omega) hq
  · rw [if_neg c] at hq
    refine E_ic (v := 1) d_Mo_readUnit_48 (by decide) ?_
    refine E_goto (tgt := 53) d_Mo_readUnit_49 (by decide) ?_
    exact t_Mo_readUnit_53 (by omega) hq
def f_Mo_readUnit_24 (a0 : Nat) (s0 : Int32) (h : PH) : Option (Int32 × PH) :=
  if s0 = 0 then
    (ldI h 9 a0 17).bind fun v1 =>
    if v1 = 3 then
      f_Mo_readUnit_43 a0 s0 h
    else
      (isO h 9 a0).bind fun _ =>
      (f_Mo_errs a0 1 h).bind fun p2 =>
      some (p2.1, p2.2)
  else
    f_Mo_readUnit_43 a0 s0 h
theorem t_Mo_readUnit_24 {d : Nat} (hd : 3 ≤ d) {a0 : Nat} {s0 : Int32} {h : PH} {r : Int32 × PH} (hq : f_Mo_readUnit_24 a0 s0 h = some r) : E d 0 0 m_Mo_readUnit 24 [(0, .ref a0)] [.int s0] h (PI r) := by
  unfold f_Mo_readUnit_24 at hq
  obtain ⟨d, rfl⟩ : ∃ e, d = e + 1 := ⟨d - 1, by omega⟩
  refine E_isn (ls' := [(1, .int s0), (0, .ref a0)]) d_Mo_readUnit_24 (Nat.le_of_ble_eq_true rfl) rfl ?_
  refine E_iln 0 d_Mo_readUnit_25 rfl rfl ?_
  refine E_zne (tgt := 43) d_Mo_readUnit_26 (by decide) (fun c => ?_) (fun c => ?_)
  · rw [if_neg c] at hq
    exact E_sub (ks := [1, 0]) rfl <| t_Mo_readUnit_43 (by omega) hq
  · rw [if_pos c] at hq
    refine E_aln 1 d_Mo_readUnit_29 rfl rfl ?_
    obtain ⟨v1, ev1, hq⟩ := bd hq
    refine E_gI d_Mo_readUnit_30 lk_Mo_196 rfl ev1 ?_
    refine E_ic (v := 3) d_Mo_readUnit_33 (by decide) ?_
    refine E_jeq (tgt := 43) d_Mo_readUnit_34 (by decide) (fun c => ?_) (fun c => ?_)
    · rw [if_pos c] at hq
      exact E_sub (ks := [1, 0]) rfl <| t_Mo_readUnit_43 (by omega) hq
    · rw [if_neg c] at hq
      refine E_aln 1 d_Mo_readUnit_37 rfl rfl ?_
      refine E_ic (v := 1) d_Mo_readUnit_38 (by decide) ?_
      obtain ⟨q3, eq3, hq⟩ := bd hq
      obtain ⟨p2, ep2, hq⟩ := bd hq
      refine E_cV1I d_Mo_readUnit_39 ck_Mo_227 rfl rfl eq3 (Nat.le_of_ble_eq_true rfl) (Nat.le_of_ble_eq_true rfl) (t_Mo_errs (by omega) ep2) ?_
      exact E_rI d_Mo_readUnit_42 rfl hq
def f_Mo_readUnit_23 (a0 : Nat) (h : PH) : Option (Int32 × PH) :=
  f_Mo_readUnit_24 a0 0 h
theorem t_Mo_readUnit_23 {d : Nat} (hd : 3 ≤ d) {a0 : Nat} {h : PH} {r : Int32 × PH} (hq : f_Mo_readUnit_23 a0 h = some r) : E d 0 0 m_Mo_readUnit 23 [(0, .ref a0)] [] h (PI r) := by
  unfold f_Mo_readUnit_23 at hq
  obtain ⟨d, rfl⟩ : ∃ e, d = e + 1 := ⟨d - 1, by omega⟩
  refine E_ic (v := 0) d_Mo_readUnit_23 (by decide) ?_
  exact t_Mo_readUnit_24 (by omega) hq
def f_Mo_readUnit (a0 : Nat) (h : PH) : Option (Int32 × PH) :=
  (ldI h 9 a0 17).bind fun v1 =>
  if v1 = 2 then
    (ldI h 9 a0 18).bind fun v2 =>
    (isO h 9 a0).bind fun _ =>
    (f_Mo_canAsk a0 v2 h).bind fun p3 =>
    if p3.1 = 0 then
      f_Mo_readUnit_23 a0 p3.2
    else
      f_Mo_readUnit_24 a0 1 p3.2
  else
    f_Mo_readUnit_23 a0 h
theorem t_Mo_readUnit {d : Nat} (hd : 3 ≤ d) {a0 : Nat} {h : PH} {r : Int32 × PH} (hq : f_Mo_readUnit a0 h = some r) : E d 0 0 m_Mo_readUnit 0 [(0, .ref a0)] [] h (PI r) := by
  unfold f_Mo_readUnit at hq
  obtain ⟨d, rfl⟩ : ∃ e, d = e + 1 := ⟨d - 1, by omega⟩
  refine E_aln 0 d_Mo_readUnit_0 rfl rfl ?_
  obtain ⟨v1, ev1, hq⟩ := bd hq
  refine E_gI d_Mo_readUnit_1 lk_Mo_196 rfl ev1 ?_
  refine E_ic (v := 2) d_Mo_readUnit_4 (by decide) ?_
  refine E_jne (tgt := 23) d_Mo_readUnit_5 (by decide) (fun c => ?_) (fun c => ?_)
  · rw [if_neg c] at hq
    exact t_Mo_readUnit_23 (by omega) hq
  · rw [if_pos c] at hq
    refine E_aln 0 d_Mo_readUnit_8 rfl rfl ?_
    refine E_aln 0 d_Mo_readUnit_9 rfl rfl ?_
    obtain ⟨v2, ev2, hq⟩ := bd hq
    refine E_gI d_Mo_readUnit_10 lk_Mo_199 rfl ev2 ?_
    obtain ⟨q4, eq4, hq⟩ := bd hq
    obtain ⟨p3, ep3, hq⟩ := bd hq
    refine E_cV1I d_Mo_readUnit_13 ck_Mo_224 rfl rfl eq4 (Nat.le_of_ble_eq_true rfl) (Nat.le_of_ble_eq_true rfl) (t_Mo_canAsk (by omega) ep3) ?_
    refine E_zeq (tgt := 23) d_Mo_readUnit_16 (by decide) (fun c => ?_) (fun c => ?_)
    · rw [if_pos c] at hq
      exact t_Mo_readUnit_23 (by omega) hq
    · rw [if_neg c] at hq
      refine E_ic (v := 1) d_Mo_readUnit_19 (by decide) ?_
      refine E_goto (tgt := 24) d_Mo_readUnit_20 (by decide) ?_
      exact t_Mo_readUnit_24 (by omega) hq
def f_Mo_readProduct_94 (k10 : Nat → PH → Option (Int32 × PH)) (a0 : Nat) (s0 : Int32) (s1 : Nat) (h : PH) : Option (Int32 × PH) :=
  (isO h 9 s1).bind fun _ =>
  (f_Mo_emits s1 s0 0 h).bind fun h1 =>
  k10 a0 h1
theorem t_Mo_readProduct_94 {d : Nat} (hd : 4 ≤ d) {k10 : Nat → PH → Option (Int32 × PH)} (hk10 : ∀ (a0 : Nat) (h : PH) (r : Int32 × PH), k10 a0 h = some r → E d 0 0 m_Mo_readProduct 10 [(0, .ref a0)] [] h (PI r)) {a0 : Nat} {s0 : Int32} {s1 : Nat} {h : PH} {r : Int32 × PH} (hq : f_Mo_readProduct_94 k10 a0 s0 s1 h = some r) : E d 0 0 m_Mo_readProduct 94 [(0, .ref a0)] [.int s0, .ref s1] h (PI r) := by
  unfold f_Mo_readProduct_94 at hq
  obtain ⟨d, rfl⟩ : ∃ e, d = e + 1 := ⟨d - 1, by omega⟩
  refine E_ic (v := 0) d_Mo_readProduct_94 (by decide) ?_
  obtain ⟨q2, eq2, hq⟩ := bd hq
  obtain ⟨h1, eh1, hq⟩ := bd hq
  refine E_cV2V d_Mo_readProduct_95 ck_Mo_230 rfl rfl eq2 (Nat.le_of_ble_eq_true rfl) (Nat.le_of_ble_eq_true rfl) (t_Mo_emits (by omega) eh1) ?_
  refine E_goto (tgt := 10) d_Mo_readProduct_98 (by decide) ?_
  exact hk10 _ _ _ hq
def f_Mo_readProduct_74 (k10 : Nat → PH → Option (Int32 × PH)) (a0 : Nat) (x1 : Int32) (h : PH) : Option (Int32 × PH) :=
  (isO h 9 a0).bind fun _ =>
  (f_Mo_readUnit a0  h).bind fun p1 =>
  if p1.1 = (-1) then
    some ((-1), p1.2)
  else
    if x1 = 0 then
      f_Mo_readProduct_94 k10 a0 5 a0 p1.2
    else
      f_Mo_readProduct_94 k10 a0 4 a0 p1.2
theorem t_Mo_readProduct_74 {d : Nat} (hd : 4 ≤ d) {k10 : Nat → PH → Option (Int32 × PH)} (hk10 : ∀ (a0 : Nat) (h : PH) (r : Int32 × PH), k10 a0 h = some r → E d 0 0 m_Mo_readProduct 10 [(0, .ref a0)] [] h (PI r)) {a0 : Nat} {x1 : Int32} {h : PH} {r : Int32 × PH} (hq : f_Mo_readProduct_74 k10 a0 x1 h = some r) : E d 0 0 m_Mo_readProduct 74 [(0, .ref a0), (1, .int x1)] [] h (PI r) := by
  unfold f_Mo_readProduct_74 at hq
  obtain ⟨d, rfl⟩ : ∃ e, d = e + 1 := ⟨d - 1, by omega⟩
  refine E_aln 0 d_Mo_readProduct_74 rfl rfl ?_
  obtain ⟨q2, eq2, hq⟩ := bd hq
  obtain ⟨p1, ep1, hq⟩ := bd hq
  refine E_cV0I d_Mo_readProduct_75 ck_Mo_237 rfl rfl eq2 (Nat.le_of_ble_eq_true rfl) (Nat.le_of_ble_eq_true rfl) (t_Mo_readUnit (by omega) ep1) ?_
  refine E_ic (v := (-1)) d_Mo_readProduct_78 (by decide) ?_
  refine E_jne (tgt := 84) d_Mo_readProduct_79 (by decide) (fun c => ?_) (fun c => ?_)
  · rw [if_neg c] at hq
    refine E_aln 0 d_Mo_readProduct_84 rfl rfl ?_
    refine E_iln 1 d_Mo_readProduct_85 rfl rfl ?_
    refine E_zeq (tgt := 93) d_Mo_readProduct_86 (by decide) (fun c => ?_) (fun c => ?_)
    · rw [if_pos c] at hq
      refine E_ic (v := 5) d_Mo_readProduct_93 (by decide) ?_
      exact E_sub (ks := [0]) rfl <| t_Mo_readProduct_94 (by omega) hk10 hq
    · rw [if_neg c] at hq
      refine E_ic (v := 4) d_Mo_readProduct_89 (by decide) ?_
      refine E_goto (tgt := 94) d_Mo_readProduct_90 (by decide) ?_
      exact E_sub (ks := [0]) rfl <| t_Mo_readProduct_94 (by omega) hk10 hq
  · rw [if_pos c] at hq
    refine E_ic (v := (-1)) d_Mo_readProduct_82 (by decide) ?_
    exact E_rI d_Mo_readProduct_83 rfl hq
def f_Mo_readProduct_57 (k10 : Nat → PH → Option (Int32 × PH)) (a0 : Nat) (x1 : Int32) (h : PH) : Option (Int32 × PH) :=
  if x1 = 0 then
    (ldI h 9 a0 18).bind fun v1 =>
    if v1 = 0 then
      (isO h 9 a0).bind fun _ =>
      (f_Mo_errs a0 2 h).bind fun p2 =>
      some (p2.1, p2.2)
    else
      f_Mo_readProduct_74 k10 a0 x1 h
  else
    f_Mo_readProduct_74 k10 a0 x1 h
theorem t_Mo_readProduct_57 {d : Nat} (hd : 4 ≤ d) {k10 : Nat → PH → Option (Int32 × PH)} (hk10 : ∀ (a0 : Nat) (h : PH) (r : Int32 × PH), k10 a0 h = some r → E d 0 0 m_Mo_readProduct 10 [(0, .ref a0)] [] h (PI r)) {a0 : Nat} {x1 : Int32} {h : PH} {r : Int32 × PH} (hq : f_Mo_readProduct_57 k10 a0 x1 h = some r) : E d 0 0 m_Mo_readProduct 57 [(0, .ref a0), (1, .int x1)] [] h (PI r) := by
  unfold f_Mo_readProduct_57 at hq
  obtain ⟨d, rfl⟩ : ∃ e, d = e + 1 := ⟨d - 1, by omega⟩
  refine E_iln 1 d_Mo_readProduct_57 rfl rfl ?_
  refine E_zne (tgt := 74) d_Mo_readProduct_58 (by decide) (fun c => ?_) (fun c => ?_)
  · rw [if_neg c] at hq
    exact t_Mo_readProduct_74 (by omega) hk10 hq
  · rw [if_pos c] at hq
    refine E_aln 0 d_Mo_readProduct_61 rfl rfl ?_
    obtain ⟨v1, ev1, hq⟩ := bd hq
    refine E_gI d_Mo_readProduct_62 lk_Mo_199 rfl ev1 ?_
    refine E_zne (tgt := 74) d_Mo_readProduct_65 (by decide) (fun c => ?_) (fun c => ?_)
    · rw [if_neg c] at hq
      exact t_Mo_readProduct_74 (by omega) hk10 hq
    · rw [if_pos c] at hq
      refine E_aln 0 d_Mo_readProduct_68 rfl rfl ?_
      refine E_ic (v := 2) d_Mo_readProduct_69 (by decide) ?_
      obtain ⟨q3, eq3, hq⟩ := bd hq
      obtain ⟨p2, ep2, hq⟩ := bd hq
      refine E_cV1I d_Mo_readProduct_70 ck_Mo_227 rfl rfl eq3 (Nat.le_of_ble_eq_true rfl) (Nat.le_of_ble_eq_true rfl) (t_Mo_errs (by omega) ep2) ?_
      exact E_rI d_Mo_readProduct_73 rfl hq
def f_Mo_readProduct_28 (k10 : Nat → PH → Option (Int32 × PH)) (a0 : Nat) (h : PH) : Option (Int32 × PH) :=
  (isO h 9 a0).bind fun _ =>
  (f_Mo_isSign a0 42 h).bind fun p1 =>
  (isO p1.2 9 a0).bind fun _ =>
  (f_Mo_reads a0  p1.2).bind fun h3 =>
  if p1.1 = 0 then
    (ldI h3 9 a0 17).bind fun v5 =>
    if v5 = 3 then
      f_Mo_readProduct_57 k10 a0 p1.1 h3
    else
      (isO h3 9 a0).bind fun _ =>
      (f_Mo_errs a0 1 h3).bind fun p6 =>
      some (p6.1, p6.2)
  else
    f_Mo_readProduct_57 k10 a0 p1.1 h3
theorem t_Mo_readProduct_28 {d : Nat} (hd : 4 ≤ d) {k10 : Nat → PH → Option (Int32 × PH)} (hk10 : ∀ (a0 : Nat) (h : PH) (r : Int32 × PH), k10 a0 h = some r → E d 0 0 m_Mo_readProduct 10 [(0, .ref a0)] [] h (PI r)) {a0 : Nat} {h : PH} {r : Int32 × PH} (hq : f_Mo_readProduct_28 k10 a0 h = some r) : E d 0 0 m_Mo_readProduct 28 [(0, .ref a0)] [] h (PI r) := by
  unfold f_Mo_readProduct_28 at hq
  obtain ⟨d, rfl⟩ : ∃ e, d = e + 1 := ⟨d - 1, by omega⟩
  refine E_aln 0 d_Mo_readProduct_28 rfl rfl ?_
  refine E_bi (v := 42) d_Mo_readProduct_29 (by decide) ?_
  obtain ⟨q2, eq2, hq⟩ := bd hq
  obtain ⟨p1, ep1, hq⟩ := bd hq
  refine E_cV1I d_Mo_readProduct_31 ck_Mo_241 rfl rfl eq2 (Nat.le_of_ble_eq_true rfl) (Nat.le_of_ble_eq_true rfl) (t_Mo_isSign (by omega) ep1) ?_
  refine E_isn (ls' := [(1, .int p1.1), (0, .ref a0)]) d_Mo_readProduct_34 (Nat.le_of_ble_eq_true rfl) rfl ?_
  refine E_aln 1 d_Mo_readProduct_35 rfl rfl ?_
  obtain ⟨q4, eq4, hq⟩ := bd hq
  obtain ⟨h3, eh3, hq⟩ := bd hq
  refine E_cV0V d_Mo_readProduct_36 ck_Mo_234 rfl rfl eq4 (Nat.le_of_ble_eq_true rfl) (Nat.le_of_ble_eq_true rfl) (t_Mo_reads (by omega) eh3) ?_
  refine E_iln 0 d_Mo_readProduct_39 rfl rfl ?_
  refine E_zne (tgt := 57) d_Mo_readProduct_40 (by decide) (fun c => ?_) (fun c => ?_)
  · rw [if_neg c] at hq
    exact E_sub (ks := [1, 0]) rfl <| t_Mo_readProduct_57 (by omega) hk10 hq
  · rw [if_pos c] at hq
    refine E_aln 1 d_Mo_readProduct_43 rfl rfl ?_
    obtain ⟨v5, ev5, hq⟩ := bd hq
    refine E_gI d_Mo_readProduct_44 lk_Mo_196 rfl ev5 ?_
    refine E_ic (v := 3) d_Mo_readProduct_47 (by decide) ?_
    refine E_jeq (tgt := 57) d_Mo_readProduct_48 (by decide) (fun c => ?_) (fun c => ?_)
    · rw [if_pos c] at hq
      exact E_sub (ks := [1, 0]) rfl <| t_Mo_readProduct_57 (by omega) hk10 hq
    · rw [if_neg c] at hq
      refine E_aln 1 d_Mo_readProduct_51 rfl rfl ?_
      refine E_ic (v := 1) d_Mo_readProduct_52 (by decide) ?_
      obtain ⟨q7, eq7, hq⟩ := bd hq
      obtain ⟨p6, ep6, hq⟩ := bd hq
      refine E_cV1I d_Mo_readProduct_53 ck_Mo_227 rfl rfl eq7 (Nat.le_of_ble_eq_true rfl) (Nat.le_of_ble_eq_true rfl) (t_Mo_errs (by omega) ep6) ?_
      exact E_rI d_Mo_readProduct_56 rfl hq
def f_Mo_readProduct_10 : Nat → Nat → PH → Option (Int32 × PH)
  | 0, _, _ => none
  | n + 1, a0, h =>
    (isO h 9 a0).bind fun _ =>
    (f_Mo_isSign a0 42 h).bind fun p1 =>
    if p1.1 = 0 then
      (isO p1.2 9 a0).bind fun _ =>
      (f_Mo_isSign a0 47 p1.2).bind fun p3 =>
      if p3.1 = 0 then
        some (0, p3.2)
      else
        f_Mo_readProduct_28 (fun a0 h => f_Mo_readProduct_10 n a0 h) a0 p3.2
    else
      f_Mo_readProduct_28 (fun a0 h => f_Mo_readProduct_10 n a0 h) a0 p1.2
theorem t_Mo_readProduct_10 {d : Nat} (hd : 4 ≤ d) : ∀ (n : Nat) (a0 : Nat) (h : PH) (r : Int32 × PH), f_Mo_readProduct_10 n a0 h = some r → E d 0 0 m_Mo_readProduct 10 [(0, .ref a0)] [] h (PI r) := by
  intro n
  induction n with
  | zero => intro a0 h r hq; rw [f_Mo_readProduct_10] at hq; cases hq
  | succ n ih =>
    intro a0 h r hq
    rw [f_Mo_readProduct_10] at hq
    obtain ⟨d, rfl⟩ : ∃ e, d = e + 1 := ⟨d - 1, by omega⟩
    refine E_aln 0 d_Mo_readProduct_10 rfl rfl ?_
    refine E_bi (v := 42) d_Mo_readProduct_11 (by decide) ?_
    obtain ⟨q2, eq2, hq⟩ := bd hq
    obtain ⟨p1, ep1, hq⟩ := bd hq
    refine E_cV1I d_Mo_readProduct_13 ck_Mo_241 rfl rfl eq2 (Nat.le_of_ble_eq_true rfl) (Nat.le_of_ble_eq_true rfl) (t_Mo_isSign (by omega) ep1) ?_
    refine E_zne (tgt := 28) d_Mo_readProduct_16 (by decide) (fun c => ?_) (fun c => ?_)
    · rw [if_neg c] at hq
      exact t_Mo_readProduct_28 (by omega) ih hq
    · rw [if_pos c] at hq
      refine E_aln 0 d_Mo_readProduct_19 rfl rfl ?_
      refine E_bi (v := 47) d_Mo_readProduct_20 (by decide) ?_
      obtain ⟨q4, eq4, hq⟩ := bd hq
      obtain ⟨p3, ep3, hq⟩ := bd hq
      refine E_cV1I d_Mo_readProduct_22 ck_Mo_241 rfl rfl eq4 (Nat.le_of_ble_eq_true rfl) (Nat.le_of_ble_eq_true rfl) (t_Mo_isSign (by omega) ep3) ?_
      refine E_zeq (tgt := 101) d_Mo_readProduct_25 (by decide) (fun c => ?_) (fun c => ?_)
      · rw [if_pos c] at hq
        refine E_ic (v := 0) d_Mo_readProduct_101 (by decide) ?_
        exact E_rI d_Mo_readProduct_102 rfl hq
      · rw [if_neg c] at hq
        exact t_Mo_readProduct_28 (by omega) ih hq
def f_Mo_readProduct (a0 : Nat) (h : PH) : Option (Int32 × PH) :=
  (isO h 9 a0).bind fun _ =>
  (f_Mo_readUnit a0  h).bind fun p1 =>
  if p1.1 = (-1) then
    some ((-1), p1.2)
  else
    f_Mo_readProduct_10 FU a0 p1.2
theorem t_Mo_readProduct {d : Nat} (hd : 4 ≤ d) {a0 : Nat} {h : PH} {r : Int32 × PH} (hq : f_Mo_readProduct a0 h = some r) : E d 0 0 m_Mo_readProduct 0 [(0, .ref a0)] [] h (PI r) := by
  unfold f_Mo_readProduct at hq
  obtain ⟨d, rfl⟩ : ∃ e, d = e + 1 := ⟨d - 1, by omega⟩
  refine E_aln 0 d_Mo_readProduct_0 rfl rfl ?_
  obtain ⟨q2, eq2, hq⟩ := bd hq
  obtain ⟨p1, ep1, hq⟩ := bd hq
  refine E_cV0I d_Mo_readProduct_1 ck_Mo_237 rfl rfl eq2 (Nat.le_of_ble_eq_true rfl) (Nat.le_of_ble_eq_true rfl) (t_Mo_readUnit (by omega) ep1) ?_
  refine E_ic (v := (-1)) d_Mo_readProduct_4 (by decide) ?_
  refine E_jne (tgt := 10) d_Mo_readProduct_5 (by decide) (fun c => ?_) (fun c => ?_)
  · rw [if_neg c] at hq
    exact t_Mo_readProduct_10 (by omega) _ _ _ _ hq
  · rw [if_pos c] at hq
    refine E_ic (v := (-1)) d_Mo_readProduct_8 (by decide) ?_
    exact E_rI d_Mo_readProduct_9 rfl hq
def f_Mo_readSum_42 (k10 : Nat → PH → Option (Int32 × PH)) (a0 : Nat) (s0 : Int32) (h : PH) : Option (Int32 × PH) :=
  (isO h 9 a0).bind fun _ =>
  (f_Mo_reads a0  h).bind fun h1 =>
  (isO h1 9 a0).bind fun _ =>
  (f_Mo_readProduct a0  h1).bind fun p3 =>
  if p3.1 = (-1) then
    some ((-1), p3.2)
  else
    (isO p3.2 9 a0).bind fun _ =>
    (f_Mo_emits a0 s0 0 p3.2).bind fun h5 =>
    k10 a0 h5
theorem t_Mo_readSum_42 {d : Nat} (hd : 5 ≤ d) {k10 : Nat → PH → Option (Int32 × PH)} (hk10 : ∀ (a0 : Nat) (h : PH) (r : Int32 × PH), k10 a0 h = some r → E d 0 0 m_Mo_readSum 10 [(0, .ref a0)] [] h (PI r)) {a0 : Nat} {s0 : Int32} {h : PH} {r : Int32 × PH} (hq : f_Mo_readSum_42 k10 a0 s0 h = some r) : E d 0 0 m_Mo_readSum 42 [(0, .ref a0)] [.int s0] h (PI r) := by
  unfold f_Mo_readSum_42 at hq
  obtain ⟨d, rfl⟩ : ∃ e, d = e + 1 := ⟨d - 1, by omega⟩
  refine E_isn (ls' := [(1, .int s0), (0, .ref a0)]) d_Mo_readSum_42 (Nat.le_of_ble_eq_true rfl) rfl ?_
  refine E_aln 1 d_Mo_readSum_43 rfl rfl ?_
  obtain ⟨q2, eq2, hq⟩ := bd hq
  obtain ⟨h1, eh1, hq⟩ := bd hq
  refine E_cV0V d_Mo_readSum_44 ck_Mo_234 rfl rfl eq2 (Nat.le_of_ble_eq_true rfl) (Nat.le_of_ble_eq_true rfl) (t_Mo_reads (by omega) eh1) ?_
  refine E_aln 1 d_Mo_readSum_47 rfl rfl ?_
  obtain ⟨q4, eq4, hq⟩ := bd hq
  obtain ⟨p3, ep3, hq⟩ := bd hq
  refine E_cV0I d_Mo_readSum_48 ck_Mo_244 rfl rfl eq4 (Nat.le_of_ble_eq_true rfl) (Nat.le_of_ble_eq_true rfl) (t_Mo_readProduct (by omega) ep3) ?_
  refine E_ic (v := (-1)) d_Mo_readSum_51 (by decide) ?_
  refine E_jne (tgt := 57) d_Mo_readSum_52 (by decide) (fun c => ?_) (fun c => ?_)
  · rw [if_neg c] at hq
    refine E_aln 1 d_Mo_readSum_57 rfl rfl ?_
    refine E_iln 0 d_Mo_readSum_58 rfl rfl ?_
    refine E_ic (v := 0) d_Mo_readSum_59 (by decide) ?_
    obtain ⟨q6, eq6, hq⟩ := bd hq
    obtain ⟨h5, eh5, hq⟩ := bd hq
    refine E_cV2V d_Mo_readSum_60 ck_Mo_230 rfl rfl eq6 (Nat.le_of_ble_eq_true rfl) (Nat.le_of_ble_eq_true rfl) (t_Mo_emits (by omega) eh5) ?_
    refine E_goto (tgt := 10) d_Mo_readSum_63 (by decide) ?_
    exact E_sub (ks := [1]) rfl <| hk10 _ _ _ hq
  · rw [if_pos c] at hq
    refine E_ic (v := (-1)) d_Mo_readSum_55 (by decide) ?_
    exact E_rI d_Mo_readSum_56 rfl hq
def f_Mo_readSum_28 (k10 : Nat → PH → Option (Int32 × PH)) (a0 : Nat) (h : PH) : Option (Int32 × PH) :=
  (ldI h 9 a0 18).bind fun v1 =>
  if v1 = 43 then
    f_Mo_readSum_42 k10 a0 2 h
  else
    f_Mo_readSum_42 k10 a0 3 h
theorem t_Mo_readSum_28 {d : Nat} (hd : 5 ≤ d) {k10 : Nat → PH → Option (Int32 × PH)} (hk10 : ∀ (a0 : Nat) (h : PH) (r : Int32 × PH), k10 a0 h = some r → E d 0 0 m_Mo_readSum 10 [(0, .ref a0)] [] h (PI r)) {a0 : Nat} {h : PH} {r : Int32 × PH} (hq : f_Mo_readSum_28 k10 a0 h = some r) : E d 0 0 m_Mo_readSum 28 [(0, .ref a0)] [] h (PI r) := by
  unfold f_Mo_readSum_28 at hq
  obtain ⟨d, rfl⟩ : ∃ e, d = e + 1 := ⟨d - 1, by omega⟩
  refine E_aln 0 d_Mo_readSum_28 rfl rfl ?_
  obtain ⟨v1, ev1, hq⟩ := bd hq
  refine E_gI d_Mo_readSum_29 lk_Mo_199 rfl ev1 ?_
  refine E_bi (v := 43) d_Mo_readSum_32 (by decide) ?_
  refine E_jne (tgt := 41) d_Mo_readSum_34 (by decide) (fun c => ?_) (fun c => ?_)
  · rw [if_neg c] at hq
    refine E_ic (v := 3) d_Mo_readSum_41 (by decide) ?_
    exact t_Mo_readSum_42 (by omega) hk10 hq
  · rw [if_pos c] at hq
    refine E_ic (v := 2) d_Mo_readSum_37 (by decide) ?_
    refine E_goto (tgt := 42) d_Mo_readSum_38 (by decide) ?_
    exact t_Mo_readSum_42 (by omega) hk10 hq
def f_Mo_readSum_10 : Nat → Nat → PH → Option (Int32 × PH)
  | 0, _, _ => none
  | n + 1, a0, h =>
    (isO h 9 a0).bind fun _ =>
    (f_Mo_isSign a0 43 h).bind fun p1 =>
    if p1.1 = 0 then
      (isO p1.2 9 a0).bind fun _ =>
      (f_Mo_isSign a0 45 p1.2).bind fun p3 =>
      if p3.1 = 0 then
        some (0, p3.2)
      else
        f_Mo_readSum_28 (fun a0 h => f_Mo_readSum_10 n a0 h) a0 p3.2
    else
      f_Mo_readSum_28 (fun a0 h => f_Mo_readSum_10 n a0 h) a0 p1.2
theorem t_Mo_readSum_10 {d : Nat} (hd : 5 ≤ d) : ∀ (n : Nat) (a0 : Nat) (h : PH) (r : Int32 × PH), f_Mo_readSum_10 n a0 h = some r → E d 0 0 m_Mo_readSum 10 [(0, .ref a0)] [] h (PI r) := by
  intro n
  induction n with
  | zero => intro a0 h r hq; rw [f_Mo_readSum_10] at hq; cases hq
  | succ n ih =>
    intro a0 h r hq
    rw [f_Mo_readSum_10] at hq
    obtain ⟨d, rfl⟩ : ∃ e, d = e + 1 := ⟨d - 1, by omega⟩
    refine E_aln 0 d_Mo_readSum_10 rfl rfl ?_
    refine E_bi (v := 43) d_Mo_readSum_11 (by decide) ?_
    obtain ⟨q2, eq2, hq⟩ := bd hq
    obtain ⟨p1, ep1, hq⟩ := bd hq
    refine E_cV1I d_Mo_readSum_13 ck_Mo_241 rfl rfl eq2 (Nat.le_of_ble_eq_true rfl) (Nat.le_of_ble_eq_true rfl) (t_Mo_isSign (by omega) ep1) ?_
    refine E_zne (tgt := 28) d_Mo_readSum_16 (by decide) (fun c => ?_) (fun c => ?_)
    · rw [if_neg c] at hq
      exact t_Mo_readSum_28 (by omega) ih hq
    · rw [if_pos c] at hq
      refine E_aln 0 d_Mo_readSum_19 rfl rfl ?_
      refine E_bi (v := 45) d_Mo_readSum_20 (by decide) ?_
      obtain ⟨q4, eq4, hq⟩ := bd hq
      obtain ⟨p3, ep3, hq⟩ := bd hq
      refine E_cV1I d_Mo_readSum_22 ck_Mo_241 rfl rfl eq4 (Nat.le_of_ble_eq_true rfl) (Nat.le_of_ble_eq_true rfl) (t_Mo_isSign (by omega) ep3) ?_
      refine E_zeq (tgt := 66) d_Mo_readSum_25 (by decide) (fun c => ?_) (fun c => ?_)
      · rw [if_pos c] at hq
        refine E_ic (v := 0) d_Mo_readSum_66 (by decide) ?_
        exact E_rI d_Mo_readSum_67 rfl hq
      · rw [if_neg c] at hq
        exact t_Mo_readSum_28 (by omega) ih hq
def f_Mo_readSum (a0 : Nat) (h : PH) : Option (Int32 × PH) :=
  (isO h 9 a0).bind fun _ =>
  (f_Mo_readProduct a0  h).bind fun p1 =>
  if p1.1 = (-1) then
    some ((-1), p1.2)
  else
    f_Mo_readSum_10 FU a0 p1.2
theorem t_Mo_readSum {d : Nat} (hd : 5 ≤ d) {a0 : Nat} {h : PH} {r : Int32 × PH} (hq : f_Mo_readSum a0 h = some r) : E d 0 0 m_Mo_readSum 0 [(0, .ref a0)] [] h (PI r) := by
  unfold f_Mo_readSum at hq
  obtain ⟨d, rfl⟩ : ∃ e, d = e + 1 := ⟨d - 1, by omega⟩
  refine E_aln 0 d_Mo_readSum_0 rfl rfl ?_
  obtain ⟨q2, eq2, hq⟩ := bd hq
  obtain ⟨p1, ep1, hq⟩ := bd hq
  refine E_cV0I d_Mo_readSum_1 ck_Mo_244 rfl rfl eq2 (Nat.le_of_ble_eq_true rfl) (Nat.le_of_ble_eq_true rfl) (t_Mo_readProduct (by omega) ep1) ?_
  refine E_ic (v := (-1)) d_Mo_readSum_4 (by decide) ?_
  refine E_jne (tgt := 10) d_Mo_readSum_5 (by decide) (fun c => ?_) (fun c => ?_)
  · rw [if_neg c] at hq
    exact t_Mo_readSum_10 (by omega) _ _ _ _ hq
  · rw [if_pos c] at hq
    refine E_ic (v := (-1)) d_Mo_readSum_8 (by decide) ?_
    exact E_rI d_Mo_readSum_9 rfl hq
def f_Mo_waits (a0 : Nat) (x1 : Int32) (h : PH) : Option (PH) :=
  (ldR h 9 a0 30).bind fun v1 =>
  (ldI h 9 a0 31).bind fun v2 =>
  (wrA h v1 v2 x1).bind fun h3 =>
  (ldI h3 9 a0 31).bind fun v4 =>
  (stI h3 9 a0 31 (v4 + 1)).bind fun h5 =>
  some h5
theorem t_Mo_waits {d : Nat} (hd : 0 ≤ d) {a0 : Nat} {x1 : Int32} {h : PH} {r : PH} (hq : f_Mo_waits a0 x1 h = some r) : E d 0 0 m_Mo_waits 0 [(0, .ref a0), (1, .int x1)] [] h (PV r) := by
  unfold f_Mo_waits at hq
  refine E_aln 0 d_Mo_waits_0 rfl rfl ?_
  obtain ⟨v1, ev1, hq⟩ := bd hq
  refine E_gR d_Mo_waits_1 lk_Mo_61 rfl ev1 ?_
  refine E_aln 0 d_Mo_waits_4 rfl rfl ?_
  obtain ⟨v2, ev2, hq⟩ := bd hq
  refine E_gI d_Mo_waits_5 lk_Mo_250 rfl ev2 ?_
  refine E_iln 1 d_Mo_waits_8 rfl rfl ?_
  obtain ⟨h3, eh3, hq⟩ := bd hq
  refine E_wa d_Mo_waits_9 eh3 ?_
  refine E_aln 0 d_Mo_waits_10 rfl rfl ?_
  refine E_aln 0 d_Mo_waits_11 rfl rfl ?_
  obtain ⟨v4, ev4, hq⟩ := bd hq
  refine E_gI d_Mo_waits_12 lk_Mo_250 rfl ev4 ?_
  refine E_ic (v := 1) d_Mo_waits_15 (by decide) ?_
  refine E_iadd d_Mo_waits_16 ?_
  obtain ⟨h5, eh5, hq⟩ := bd hq
  refine E_pI d_Mo_waits_17 lp_Mo_m_250 rfl eh5 ?_
  exact E_rV d_Mo_waits_20 rfl hq
def f_Mo_readCompared_73 (a0 : Nat) (s0 : Int32) (h : PH) : Option (Int32 × PH) :=
  (isO h 9 a0).bind fun _ =>
  (f_Mo_reads a0  h).bind fun h1 =>
  (isO h1 9 a0).bind fun _ =>
  (f_Mo_readSum a0  h1).bind fun p3 =>
  if p3.1 = (-1) then
    some ((-1), p3.2)
  else
    (isO p3.2 9 a0).bind fun _ =>
    (f_Mo_emits a0 s0 0 p3.2).bind fun h5 =>
    some (0, h5)
theorem t_Mo_readCompared_73 {d : Nat} (hd : 6 ≤ d) {a0 : Nat} {s0 : Int32} {h : PH} {r : Int32 × PH} (hq : f_Mo_readCompared_73 a0 s0 h = some r) : E d 0 0 m_Mo_readCompared 73 [(0, .ref a0)] [.int s0] h (PI r) := by
  unfold f_Mo_readCompared_73 at hq
  obtain ⟨d, rfl⟩ : ∃ e, d = e + 1 := ⟨d - 1, by omega⟩
  refine E_isn (ls' := [(1, .int s0), (0, .ref a0)]) d_Mo_readCompared_73 (Nat.le_of_ble_eq_true rfl) rfl ?_
  refine E_aln 1 d_Mo_readCompared_74 rfl rfl ?_
  obtain ⟨q2, eq2, hq⟩ := bd hq
  obtain ⟨h1, eh1, hq⟩ := bd hq
  refine E_cV0V d_Mo_readCompared_75 ck_Mo_234 rfl rfl eq2 (Nat.le_of_ble_eq_true rfl) (Nat.le_of_ble_eq_true rfl) (t_Mo_reads (by omega) eh1) ?_
  refine E_aln 1 d_Mo_readCompared_78 rfl rfl ?_
  obtain ⟨q4, eq4, hq⟩ := bd hq
  obtain ⟨p3, ep3, hq⟩ := bd hq
  refine E_cV0I d_Mo_readCompared_79 ck_Mo_247 rfl rfl eq4 (Nat.le_of_ble_eq_true rfl) (Nat.le_of_ble_eq_true rfl) (t_Mo_readSum (by omega) ep3) ?_
  refine E_ic (v := (-1)) d_Mo_readCompared_82 (by decide) ?_
  refine E_jne (tgt := 88) d_Mo_readCompared_83 (by decide) (fun c => ?_) (fun c => ?_)
  · rw [if_neg c] at hq
    refine E_aln 1 d_Mo_readCompared_88 rfl rfl ?_
    refine E_iln 0 d_Mo_readCompared_89 rfl rfl ?_
    refine E_ic (v := 0) d_Mo_readCompared_90 (by decide) ?_
    obtain ⟨q6, eq6, hq⟩ := bd hq
    obtain ⟨h5, eh5, hq⟩ := bd hq
    refine E_cV2V d_Mo_readCompared_91 ck_Mo_230 rfl rfl eq6 (Nat.le_of_ble_eq_true rfl) (Nat.le_of_ble_eq_true rfl) (t_Mo_emits (by omega) eh5) ?_
    refine E_ic (v := 0) d_Mo_readCompared_94 (by decide) ?_
    exact E_rI d_Mo_readCompared_95 rfl hq
  · rw [if_pos c] at hq
    refine E_ic (v := (-1)) d_Mo_readCompared_86 (by decide) ?_
    exact E_rI d_Mo_readCompared_87 rfl hq
def f_Mo_readCompared_43 (a0 : Nat) (h : PH) : Option (Int32 × PH) :=
  (ldI h 9 a0 18).bind fun v1 =>
  if v1 = 60 then
    f_Mo_readCompared_73 a0 6 h
  else
    (ldI h 9 a0 18).bind fun v2 =>
    if v2 = 61 then
      f_Mo_readCompared_73 a0 7 h
    else
      f_Mo_readCompared_73 a0 8 h
theorem t_Mo_readCompared_43 {d : Nat} (hd : 6 ≤ d) {a0 : Nat} {h : PH} {r : Int32 × PH} (hq : f_Mo_readCompared_43 a0 h = some r) : E d 0 0 m_Mo_readCompared 43 [(0, .ref a0)] [] h (PI r) := by
  unfold f_Mo_readCompared_43 at hq
  obtain ⟨d, rfl⟩ : ∃ e, d = e + 1 := ⟨d - 1, by omega⟩
  refine E_aln 0 d_Mo_readCompared_43 rfl rfl ?_
  obtain ⟨v1, ev1, hq⟩ := bd hq
  refine E_gI d_Mo_readCompared_44 lk_Mo_199 rfl ev1 ?_
  refine E_bi (v := 60) d_Mo_readCompared_47 (by decide) ?_
  refine E_jne (tgt := 57) d_Mo_readCompared_49 (by decide) (fun c => ?_) (fun c => ?_)
  · rw [if_neg c] at hq
    refine E_aln 0 d_Mo_readCompared_57 rfl rfl ?_
    obtain ⟨v2, ev2, hq⟩ := bd hq
    refine E_gI d_Mo_readCompared_58 lk_Mo_199 rfl ev2 ?_
    refine E_bi (v := 61) d_Mo_readCompared_61 (by decide) ?_
    refine E_jne (tgt := 71) d_Mo_readCompared_63 (by decide) (fun c => ?_) (fun c => ?_)
    · rw [if_neg c] at hq
      refine E_bi (v := 8) d_Mo_readCompared_71 (by decide) ?_
      exact t_Mo_readCompared_73 (by omega) hq
    · rw [if_pos c] at hq
      refine E_bi (v := 7) d_Mo_readCompared_66 (by decide) ?_
      refine E_goto (tgt := 73) d_Mo_readCompared_68 (by decide) ?_
      exact t_Mo_readCompared_73 (by omega) hq
  · rw [if_pos c] at hq
    refine E_bi (v := 6) d_Mo_readCompared_52 (by decide) ?_
    refine E_goto (tgt := 73) d_Mo_readCompared_54 (by decide) ?_
    exact t_Mo_readCompared_73 (by omega) hq
def f_Mo_readCompared (a0 : Nat) (h : PH) : Option (Int32 × PH) :=
  (isO h 9 a0).bind fun _ =>
  (f_Mo_readSum a0  h).bind fun p1 =>
  if p1.1 = (-1) then
    some ((-1), p1.2)
  else
    (isO p1.2 9 a0).bind fun _ =>
    (f_Mo_isSign a0 60 p1.2).bind fun p3 =>
    if p3.1 = 0 then
      (isO p3.2 9 a0).bind fun _ =>
      (f_Mo_isSign a0 61 p3.2).bind fun p5 =>
      if p5.1 = 0 then
        (isO p5.2 9 a0).bind fun _ =>
        (f_Mo_isSign a0 62 p5.2).bind fun p7 =>
        if p7.1 = 0 then
          (isO p7.2 9 a0).bind fun _ =>
          (f_Mo_errs a0 1 p7.2).bind fun p9 =>
          some (p9.1, p9.2)
        else
          f_Mo_readCompared_43 a0 p7.2
      else
        f_Mo_readCompared_43 a0 p5.2
    else
      f_Mo_readCompared_43 a0 p3.2
theorem t_Mo_readCompared {d : Nat} (hd : 6 ≤ d) {a0 : Nat} {h : PH} {r : Int32 × PH} (hq : f_Mo_readCompared a0 h = some r) : E d 0 0 m_Mo_readCompared 0 [(0, .ref a0)] [] h (PI r) := by
  unfold f_Mo_readCompared at hq
  obtain ⟨d, rfl⟩ : ∃ e, d = e + 1 := ⟨d - 1, by omega⟩
  refine E_aln 0 d_Mo_readCompared_0 rfl rfl ?_
  obtain ⟨q2, eq2, hq⟩ := bd hq
  obtain ⟨p1, ep1, hq⟩ := bd hq
  refine E_cV0I d_Mo_readCompared_1 ck_Mo_247 rfl rfl eq2 (Nat.le_of_ble_eq_true rfl) (Nat.le_of_ble_eq_true rfl) (t_Mo_readSum (by omega) ep1) ?_
  refine E_ic (v := (-1)) d_Mo_readCompared_4 (by decide) ?_
  refine E_jne (tgt := 10) d_Mo_readCompared_5 (by decide) (fun c => ?_) (fun c => ?_)
  · rw [if_neg c] at hq
    refine E_aln 0 d_Mo_readCompared_10 rfl rfl ?_
    refine E_bi (v := 60) d_Mo_readCompared_11 (by decide) ?_
    obtain ⟨q4, eq4, hq⟩ := bd hq
    obtain ⟨p3, ep3, hq⟩ := bd hq
    refine E_cV1I d_Mo_readCompared_13 ck_Mo_241 rfl rfl eq4 (Nat.le_of_ble_eq_true rfl) (Nat.le_of_ble_eq_true rfl) (t_Mo_isSign (by omega) ep3) ?_
    refine E_zne (tgt := 43) d_Mo_readCompared_16 (by decide) (fun c => ?_) (fun c => ?_)
    · rw [if_neg c] at hq
      exact t_Mo_readCompared_43 (by omega) hq
    · rw [if_pos c] at hq
      refine E_aln 0 d_Mo_readCompared_19 rfl rfl ?_
      refine E_bi (v := 61) d_Mo_readCompared_20 (by decide) ?_
      obtain ⟨q6, eq6, hq⟩ := bd hq
      obtain ⟨p5, ep5, hq⟩ := bd hq
      refine E_cV1I d_Mo_readCompared_22 ck_Mo_241 rfl rfl eq6 (Nat.le_of_ble_eq_true rfl) (Nat.le_of_ble_eq_true rfl) (t_Mo_isSign (by omega) ep5) ?_
      refine E_zne (tgt := 43) d_Mo_readCompared_25 (by decide) (fun c => ?_) (fun c => ?_)
      · rw [if_neg c] at hq
        exact t_Mo_readCompared_43 (by omega) hq
      · rw [if_pos c] at hq
        refine E_aln 0 d_Mo_readCompared_28 rfl rfl ?_
        refine E_bi (v := 62) d_Mo_readCompared_29 (by decide) ?_
        obtain ⟨q8, eq8, hq⟩ := bd hq
        obtain ⟨p7, ep7, hq⟩ := bd hq
        refine E_cV1I d_Mo_readCompared_31 ck_Mo_241 rfl rfl eq8 (Nat.le_of_ble_eq_true rfl) (Nat.le_of_ble_eq_true rfl) (t_Mo_isSign (by omega) ep7) ?_
        refine E_zne (tgt := 43) d_Mo_readCompared_34 (by decide) (fun c => ?_) (fun c => ?_)
        · rw [if_neg c] at hq
          exact t_Mo_readCompared_43 (by omega) hq
        · rw [if_pos c] at hq
          refine E_aln 0 d_Mo_readCompared_37 rfl rfl ?_
          refine E_ic (v := 1) d_Mo_readCompared_38 (by decide) ?_
          obtain ⟨q10, eq10, hq⟩ := bd hq
          obtain ⟨p9, ep9, hq⟩ := bd hq
          refine E_cV1I d_Mo_readCompared_39 ck_Mo_227 rfl rfl eq10 (Nat.le_of_ble_eq_true rfl) (Nat.le_of_ble_eq_true rfl) (t_Mo_errs (by omega) ep9) ?_
          exact E_rI d_Mo_readCompared_42 rfl hq
  · rw [if_pos c] at hq
    refine E_ic (v := (-1)) d_Mo_readCompared_8 (by decide) ?_
    exact E_rI d_Mo_readCompared_9 rfl hq
def f_Mo_settles_0 : Nat → Nat → Int32 → PH → Option (PH)
  | 0, _, _, _ => none
  | n + 1, a0, x1, h =>
    (ldI h 9 a0 31).bind fun v1 =>
    if v1 ≤ 0 then
      some h
    else
      (ldR h 9 a0 30).bind fun v2 =>
      (ldI h 9 a0 31).bind fun v3 =>
      (rdA h v2 (v3 - 1)).bind fun v4 =>
      if v4 = x1 then
        (ldI h 9 a0 31).bind fun v5 =>
        (stI h 9 a0 31 (v5 - 1)).bind fun h6 =>
        (isO h6 9 a0).bind fun _ =>
        (f_Mo_emits a0 x1 0 h6).bind fun h7 =>
        if x1 = 9 then
          (ldI h7 9 a0 29).bind fun v9 =>
          (stI h7 9 a0 29 (v9 - 1)).bind fun h10 =>
          f_Mo_settles_0 n a0 x1 h10
        else
          f_Mo_settles_0 n a0 x1 h7
      else
        some h
theorem t_Mo_settles_0 {d : Nat} (hd : 1 ≤ d) : ∀ (n : Nat) (a0 : Nat) (x1 : Int32) (h : PH) (r : PH), f_Mo_settles_0 n a0 x1 h = some r → E d 0 0 m_Mo_settles 0 [(0, .ref a0), (1, .int x1)] [] h (PV r) := by
  intro n
  induction n with
  | zero => intro a0 x1 h r hq; rw [f_Mo_settles_0] at hq; cases hq
  | succ n ih =>
    intro a0 x1 h r hq
    rw [f_Mo_settles_0] at hq
    obtain ⟨d, rfl⟩ : ∃ e, d = e + 1 := ⟨d - 1, by omega⟩
    refine E_aln 0 d_Mo_settles_0 rfl rfl ?_
    obtain ⟨v1, ev1, hq⟩ := bd hq
    refine E_gI d_Mo_settles_1 lk_Mo_250 rfl ev1 ?_
    refine E_zle (tgt := 57) d_Mo_settles_4 (by decide) (fun c => ?_) (fun c => ?_)
    · rw [if_pos c] at hq
      exact E_rV d_Mo_settles_57 rfl hq
    · rw [if_neg c] at hq
      refine E_aln 0 d_Mo_settles_7 rfl rfl ?_
      obtain ⟨v2, ev2, hq⟩ := bd hq
      refine E_gR d_Mo_settles_8 lk_Mo_61 rfl ev2 ?_
      refine E_aln 0 d_Mo_settles_11 rfl rfl ?_
      obtain ⟨v3, ev3, hq⟩ := bd hq
      refine E_gI d_Mo_settles_12 lk_Mo_250 rfl ev3 ?_
      refine E_ic (v := 1) d_Mo_settles_15 (by decide) ?_
      refine E_isub d_Mo_settles_16 ?_
      obtain ⟨v4, ev4, hq⟩ := bd hq
      refine E_ra d_Mo_settles_17 ev4 ?_
      refine E_iln 1 d_Mo_settles_18 rfl rfl ?_
      refine E_jne (tgt := 57) d_Mo_settles_19 (by decide) (fun c => ?_) (fun c => ?_)
      · rw [if_neg c] at hq
        exact E_rV d_Mo_settles_57 rfl hq
      · rw [if_pos c] at hq
        refine E_aln 0 d_Mo_settles_22 rfl rfl ?_
        refine E_aln 0 d_Mo_settles_23 rfl rfl ?_
        obtain ⟨v5, ev5, hq⟩ := bd hq
        refine E_gI d_Mo_settles_24 lk_Mo_250 rfl ev5 ?_
        refine E_ic (v := 1) d_Mo_settles_27 (by decide) ?_
        refine E_isub d_Mo_settles_28 ?_
        obtain ⟨h6, eh6, hq⟩ := bd hq
        refine E_pI d_Mo_settles_29 lp_Mo_m_250 rfl eh6 ?_
        refine E_aln 0 d_Mo_settles_32 rfl rfl ?_
        refine E_iln 1 d_Mo_settles_33 rfl rfl ?_
        refine E_ic (v := 0) d_Mo_settles_34 (by decide) ?_
        obtain ⟨q8, eq8, hq⟩ := bd hq
        obtain ⟨h7, eh7, hq⟩ := bd hq
        refine E_cV2V d_Mo_settles_35 ck_Mo_230 rfl rfl eq8 (Nat.le_of_ble_eq_true rfl) (Nat.le_of_ble_eq_true rfl) (t_Mo_emits (by omega) eh7) ?_
        refine E_iln 1 d_Mo_settles_38 rfl rfl ?_
        refine E_bi (v := 9) d_Mo_settles_39 (by decide) ?_
        refine E_jne (tgt := 0) d_Mo_settles_41 (by decide) (fun c => ?_) (fun c => ?_)
        · rw [if_neg c] at hq
          exact ih _ _ _ _ hq
        · rw [if_pos c] at hq
          refine E_aln 0 d_Mo_settles_44 rfl rfl ?_
          refine E_aln 0 d_Mo_settles_45 rfl rfl ?_
          obtain ⟨v9, ev9, hq⟩ := bd hq
          refine E_gI d_Mo_settles_46 lk_Mo_253 rfl ev9 ?_
          refine E_ic (v := 1) d_Mo_settles_49 (by decide) ?_
          refine E_isub d_Mo_settles_50 ?_
          obtain ⟨h10, eh10, hq⟩ := bd hq
          refine E_pI d_Mo_settles_51 lp_Mo_m_253 rfl eh10 ?_
          refine E_goto (tgt := 0) d_Mo_settles_54 (by decide) ?_
          exact ih _ _ _ _ hq
def f_Mo_settles (a0 : Nat) (x1 : Int32) (h : PH) : Option (PH) :=
  f_Mo_settles_0 FU a0 x1 h
theorem t_Mo_settles {d : Nat} (hd : 1 ≤ d) {a0 : Nat} {x1 : Int32} {h : PH} {r : PH} (hq : f_Mo_settles a0 x1 h = some r) : E d 0 0 m_Mo_settles 0 [(0, .ref a0), (1, .int x1)] [] h (PV r) := by
  unfold f_Mo_settles at hq
  obtain ⟨d, rfl⟩ : ∃ e, d = e + 1 := ⟨d - 1, by omega⟩
  exact t_Mo_settles_0 (by omega) _ _ _ _ _ hq
def f_Mo_readAny_78 (k9 : Nat → Int32 → Int32 → PH → Option (Int32 × PH)) (a0 : Nat) (x1 : Int32) (x2 : Int32) (s0 : Int32) (s1 : Nat) (h : PH) : Option (Int32 × PH) :=
  (isO h 9 s1).bind fun _ =>
  (f_Mo_waits s1 s0 h).bind fun h1 =>
  (isO h1 9 a0).bind fun _ =>
  (f_Mo_reads a0  h1).bind fun h3 =>
  k9 a0 x1 x2 h3
theorem t_Mo_readAny_78 {d : Nat} (hd : 7 ≤ d) {k9 : Nat → Int32 → Int32 → PH → Option (Int32 × PH)} (hk9 : ∀ (a0 : Nat) (x1 : Int32) (x2 : Int32) (h : PH) (r : Int32 × PH), k9 a0 x1 x2 h = some r → E d 0 0 m_Mo_readAny 9 [(0, .ref a0), (1, .int x1), (2, .int x2)] [] h (PI r)) {a0 : Nat} {x1 : Int32} {x2 : Int32} {s0 : Int32} {s1 : Nat} {h : PH} {r : Int32 × PH} (hq : f_Mo_readAny_78 k9 a0 x1 x2 s0 s1 h = some r) : E d 0 0 m_Mo_readAny 78 [(0, .ref a0), (1, .int x1), (2, .int x2)] [.int s0, .ref s1] h (PI r) := by
  unfold f_Mo_readAny_78 at hq
  obtain ⟨d, rfl⟩ : ∃ e, d = e + 1 := ⟨d - 1, by omega⟩
  obtain ⟨q2, eq2, hq⟩ := bd hq
  obtain ⟨h1, eh1, hq⟩ := bd hq
  refine E_cV1V d_Mo_readAny_78 ck_Mo_259 rfl rfl eq2 (Nat.le_of_ble_eq_true rfl) (Nat.le_of_ble_eq_true rfl) (t_Mo_waits (by omega) eh1) ?_
  refine E_aln 0 d_Mo_readAny_81 rfl rfl ?_
  obtain ⟨q4, eq4, hq⟩ := bd hq
  obtain ⟨h3, eh3, hq⟩ := bd hq
  refine E_cV0V d_Mo_readAny_82 ck_Mo_234 rfl rfl eq4 (Nat.le_of_ble_eq_true rfl) (Nat.le_of_ble_eq_true rfl) (t_Mo_reads (by omega) eh3) ?_
  refine E_goto (tgt := 9) d_Mo_readAny_85 (by decide) ?_
  exact hk9 _ _ _ _ _ hq
def f_Mo_readAny_66 (k9 : Nat → Int32 → Int32 → PH → Option (Int32 × PH)) (a0 : Nat) (x1 : Int32) (x2 : Int32) (x3 : Int32) (h : PH) : Option (Int32 × PH) :=
  if x3 = 0 then
    f_Mo_readAny_78 k9 a0 x1 x2 12 a0 h
  else
    f_Mo_readAny_78 k9 a0 x1 x2 9 a0 h
theorem t_Mo_readAny_66 {d : Nat} (hd : 7 ≤ d) {k9 : Nat → Int32 → Int32 → PH → Option (Int32 × PH)} (hk9 : ∀ (a0 : Nat) (x1 : Int32) (x2 : Int32) (h : PH) (r : Int32 × PH), k9 a0 x1 x2 h = some r → E d 0 0 m_Mo_readAny 9 [(0, .ref a0), (1, .int x1), (2, .int x2)] [] h (PI r)) {a0 : Nat} {x1 : Int32} {x2 : Int32} {x3 : Int32} {h : PH} {r : Int32 × PH} (hq : f_Mo_readAny_66 k9 a0 x1 x2 x3 h = some r) : E d 0 0 m_Mo_readAny 66 [(0, .ref a0), (1, .int x1), (2, .int x2), (3, .int x3)] [] h (PI r) := by
  unfold f_Mo_readAny_66 at hq
  obtain ⟨d, rfl⟩ : ∃ e, d = e + 1 := ⟨d - 1, by omega⟩
  refine E_aln 0 d_Mo_readAny_66 rfl rfl ?_
  refine E_iln 3 d_Mo_readAny_67 rfl rfl ?_
  refine E_zeq (tgt := 76) d_Mo_readAny_68 (by decide) (fun c => ?_) (fun c => ?_)
  · rw [if_pos c] at hq
    refine E_bi (v := 12) d_Mo_readAny_76 (by decide) ?_
    exact E_sub (ks := [0, 1, 2]) rfl <| t_Mo_readAny_78 (by omega) hk9 hq
  · rw [if_neg c] at hq
    refine E_bi (v := 9) d_Mo_readAny_71 (by decide) ?_
    refine E_goto (tgt := 78) d_Mo_readAny_73 (by decide) ?_
    exact E_sub (ks := [0, 1, 2]) rfl <| t_Mo_readAny_78 (by omega) hk9 hq
def f_Mo_readAny_33 (k9 : Nat → Int32 → Int32 → PH → Option (Int32 × PH)) (a0 : Nat) (x1 : Int32) (x2 : Int32) (x3 : Int32) (h : PH) : Option (Int32 × PH) :=
  (ldI h 9 a0 29).bind fun v1 =>
  if v1 = 8 then
    (isO h 9 a0).bind fun _ =>
    (f_Mo_errs a0 3 h).bind fun p4 =>
    some (p4.1, p4.2)
  else
    (ldI h 9 a0 29).bind fun v2 =>
    (stI h 9 a0 29 (v2 + 1)).bind fun h3 =>
    if x3 = 0 then
      f_Mo_readAny_66 k9 a0 (x1 + 1) x2 x3 h3
    else
      f_Mo_readAny_66 k9 a0 x1 x2 x3 h3
theorem t_Mo_readAny_33 {d : Nat} (hd : 7 ≤ d) {k9 : Nat → Int32 → Int32 → PH → Option (Int32 × PH)} (hk9 : ∀ (a0 : Nat) (x1 : Int32) (x2 : Int32) (h : PH) (r : Int32 × PH), k9 a0 x1 x2 h = some r → E d 0 0 m_Mo_readAny 9 [(0, .ref a0), (1, .int x1), (2, .int x2)] [] h (PI r)) {a0 : Nat} {x1 : Int32} {x2 : Int32} {x3 : Int32} {h : PH} {r : Int32 × PH} (hq : f_Mo_readAny_33 k9 a0 x1 x2 x3 h = some r) : E d 0 0 m_Mo_readAny 33 [(0, .ref a0), (1, .int x1), (2, .int x2), (3, .int x3)] [] h (PI r) := by
  unfold f_Mo_readAny_33 at hq
  obtain ⟨d, rfl⟩ : ∃ e, d = e + 1 := ⟨d - 1, by omega⟩
  refine E_aln 0 d_Mo_readAny_33 rfl rfl ?_
  obtain ⟨v1, ev1, hq⟩ := bd hq
  refine E_gI d_Mo_readAny_34 lk_Mo_253 rfl ev1 ?_
  refine E_bi (v := 8) d_Mo_readAny_37 (by decide) ?_
  refine E_jne (tgt := 48) d_Mo_readAny_39 (by decide) (fun c => ?_) (fun c => ?_)
  · rw [if_neg c] at hq
    refine E_aln 0 d_Mo_readAny_48 rfl rfl ?_
    refine E_aln 0 d_Mo_readAny_49 rfl rfl ?_
    obtain ⟨v2, ev2, hq⟩ := bd hq
    refine E_gI d_Mo_readAny_50 lk_Mo_253 rfl ev2 ?_
    refine E_ic (v := 1) d_Mo_readAny_53 (by decide) ?_
    refine E_iadd d_Mo_readAny_54 ?_
    obtain ⟨h3, eh3, hq⟩ := bd hq
    refine E_pI d_Mo_readAny_55 lp_Mo_m_253 rfl eh3 ?_
    refine E_iln 3 d_Mo_readAny_58 rfl rfl ?_
    refine E_zne (tgt := 66) d_Mo_readAny_59 (by decide) (fun c => ?_) (fun c => ?_)
    · rw [if_neg c] at hq
      exact t_Mo_readAny_66 (by omega) hk9 hq
    · rw [if_pos c] at hq
      refine E_iln 1 d_Mo_readAny_62 rfl rfl ?_
      refine E_ic (v := 1) d_Mo_readAny_63 (by decide) ?_
      refine E_iadd d_Mo_readAny_64 ?_
      refine E_isn (ls' := [(1, .int (x1 + 1)), (0, .ref a0), (2, .int x2), (3, .int x3)]) d_Mo_readAny_65 (Nat.le_of_ble_eq_true rfl) rfl ?_
      exact E_sub (ks := [1, 0, 2, 3]) rfl <| t_Mo_readAny_66 (by omega) hk9 hq
  · rw [if_pos c] at hq
    refine E_aln 0 d_Mo_readAny_42 rfl rfl ?_
    refine E_ic (v := 3) d_Mo_readAny_43 (by decide) ?_
    obtain ⟨q5, eq5, hq⟩ := bd hq
    obtain ⟨p4, ep4, hq⟩ := bd hq
    refine E_cV1I d_Mo_readAny_44 ck_Mo_227 rfl rfl eq5 (Nat.le_of_ble_eq_true rfl) (Nat.le_of_ble_eq_true rfl) (t_Mo_errs (by omega) ep4) ?_
    exact E_rI d_Mo_readAny_47 rfl hq
def f_Mo_readAny_9 : Nat → Nat → Int32 → Int32 → PH → Option (Int32 × PH)
  | 0, _, _, _, _ => none
  | n + 1, a0, x1, x2, h =>
    if x2 = 0 then
      (isO h 9 a0).bind fun _ =>
      (f_Mo_isWord a0 5 h).bind fun p1 =>
      if p1.1 = 0 then
        (isO p1.2 9 a0).bind fun _ =>
        (f_Mo_isWord a0 4 p1.2).bind fun p3 =>
        if p3.1 = 0 then
          (isO p3.2 9 a0).bind fun _ =>
          (f_Mo_settles a0 10 p3.2).bind fun h5 =>
          (isO h5 9 a0).bind fun _ =>
          (f_Mo_settles a0 11 h5).bind fun h7 =>
          if x1 = 0 then
            some (0, h7)
          else
            (isO h7 9 a0).bind fun _ =>
            (f_Mo_isSign a0 41 h7).bind fun p9 =>
            if p9.1 = 0 then
              (isO p9.2 9 a0).bind fun _ =>
              (f_Mo_errs a0 1 p9.2).bind fun p19 =>
              some (p19.1, p19.2)
            else
              (ldI p9.2 9 a0 31).bind fun v11 =>
              (stI p9.2 9 a0 31 (v11 - 1)).bind fun h12 =>
              (ldI h12 9 a0 29).bind fun v13 =>
              (stI h12 9 a0 29 (v13 - 1)).bind fun h14 =>
              (isO h14 9 a0).bind fun _ =>
              (f_Mo_settles a0 9 h14).bind fun h15 =>
              (isO h15 9 a0).bind fun _ =>
              (f_Mo_reads a0  h15).bind fun h17 =>
              f_Mo_readAny_9 n a0 (x1 - 1) x2 h17
        else
          (isO p3.2 9 a0).bind fun _ =>
          (f_Mo_settles a0 10 p3.2).bind fun h21 =>
          (isO h21 9 a0).bind fun _ =>
          (f_Mo_settles a0 11 h21).bind fun h23 =>
          (isO h23 9 a0).bind fun _ =>
          (f_Mo_waits a0 11 h23).bind fun h25 =>
          (isO h25 9 a0).bind fun _ =>
          (f_Mo_reads a0  h25).bind fun h27 =>
          f_Mo_readAny_9 n a0 x1 1 h27
      else
        (isO p1.2 9 a0).bind fun _ =>
        (f_Mo_settles a0 10 p1.2).bind fun h29 =>
        (isO h29 9 a0).bind fun _ =>
        (f_Mo_waits a0 10 h29).bind fun h31 =>
        (isO h31 9 a0).bind fun _ =>
        (f_Mo_reads a0  h31).bind fun h33 =>
        f_Mo_readAny_9 n a0 x1 1 h33
    else
      (isO h 9 a0).bind fun _ =>
      (f_Mo_isWord a0 6 h).bind fun p35 =>
      if p35.1 = 0 then
        (isO p35.2 9 a0).bind fun _ =>
        (f_Mo_isSign a0 40 p35.2).bind fun p37 =>
        if p37.1 = 0 then
          (isO p37.2 9 a0).bind fun _ =>
          (f_Mo_readCompared a0  p37.2).bind fun p39 =>
          if p39.1 = (-1) then
            some ((-1), p39.2)
          else
            (isO p39.2 9 a0).bind fun _ =>
            (f_Mo_settles a0 9 p39.2).bind fun h41 =>
            f_Mo_readAny_9 n a0 x1 0 h41
        else
          f_Mo_readAny_33 (fun a0 x1 x2 h => f_Mo_readAny_9 n a0 x1 x2 h) a0 x1 x2 p35.1 p37.2
      else
        f_Mo_readAny_33 (fun a0 x1 x2 h => f_Mo_readAny_9 n a0 x1 x2 h) a0 x1 x2 p35.1 p35.2
theorem t_Mo_readAny_9 {d : Nat} (hd : 7 ≤ d) : ∀ (n : Nat) (a0 : Nat) (x1 : Int32) (x2 : Int32) (h : PH) (r : Int32 × PH), f_Mo_readAny_9 n a0 x1 x2 h = some r → E d 0 0 m_Mo_readAny 9 [(0, .ref a0), (1, .int x1), (2, .int x2)] [] h (PI r) := by
  intro n
  induction n with
  | zero => intro a0 x1 x2 h r hq; rw [f_Mo_readAny_9] at hq; cases hq
  | succ n ih =>
    intro a0 x1 x2 h r hq
    rw [f_Mo_readAny_9] at hq
    obtain ⟨d, rfl⟩ : ∃ e, d = e + 1 := ⟨d - 1, by omega⟩
    refine E_iln 2 d_Mo_readAny_9 rfl rfl ?_
    refine E_zeq (tgt := 109) d_Mo_readAny_10 (by decide) (fun c => ?_) (fun c => ?_)
    · rw [if_pos c] at hq
      refine E_aln 0 d_Mo_readAny_109 rfl rfl ?_
      refine E_ic (v := 5) d_Mo_readAny_110 (by decide) ?_
      obtain ⟨q2, eq2, hq⟩ := bd hq
      obtain ⟨p1, ep1, hq⟩ := bd hq
      refine E_cV1I d_Mo_readAny_111 ck_Mo_256 rfl rfl eq2 (Nat.le_of_ble_eq_true rfl) (Nat.le_of_ble_eq_true rfl) (t_Mo_isWord (by omega) ep1) ?_
      refine E_zeq (tgt := 138) d_Mo_readAny_114 (by decide) (fun c => ?_) (fun c => ?_)
      · rw [if_pos c] at hq
        refine E_aln 0 d_Mo_readAny_138 rfl rfl ?_
        refine E_ic (v := 4) d_Mo_readAny_139 (by decide) ?_
        obtain ⟨q4, eq4, hq⟩ := bd hq
        obtain ⟨p3, ep3, hq⟩ := bd hq
        refine E_cV1I d_Mo_readAny_140 ck_Mo_256 rfl rfl eq4 (Nat.le_of_ble_eq_true rfl) (Nat.le_of_ble_eq_true rfl) (t_Mo_isWord (by omega) ep3) ?_
        refine E_zeq (tgt := 173) d_Mo_readAny_143 (by decide) (fun c => ?_) (fun c => ?_)
        · rw [if_pos c] at hq
          refine E_aln 0 d_Mo_readAny_173 rfl rfl ?_
          refine E_bi (v := 10) d_Mo_readAny_174 (by decide) ?_
          obtain ⟨q6, eq6, hq⟩ := bd hq
          obtain ⟨h5, eh5, hq⟩ := bd hq
          refine E_cV1V d_Mo_readAny_176 ck_Mo_265 rfl rfl eq6 (Nat.le_of_ble_eq_true rfl) (Nat.le_of_ble_eq_true rfl) (t_Mo_settles (by omega) eh5) ?_
          refine E_aln 0 d_Mo_readAny_179 rfl rfl ?_
          refine E_bi (v := 11) d_Mo_readAny_180 (by decide) ?_
          obtain ⟨q8, eq8, hq⟩ := bd hq
          obtain ⟨h7, eh7, hq⟩ := bd hq
          refine E_cV1V d_Mo_readAny_182 ck_Mo_265 rfl rfl eq8 (Nat.le_of_ble_eq_true rfl) (Nat.le_of_ble_eq_true rfl) (t_Mo_settles (by omega) eh7) ?_
          refine E_iln 1 d_Mo_readAny_185 rfl rfl ?_
          refine E_zne (tgt := 191) d_Mo_readAny_186 (by decide) (fun c => ?_) (fun c => ?_)
          · rw [if_neg c] at hq
            refine E_aln 0 d_Mo_readAny_191 rfl rfl ?_
            refine E_bi (v := 41) d_Mo_readAny_192 (by decide) ?_
            obtain ⟨q10, eq10, hq⟩ := bd hq
            obtain ⟨p9, ep9, hq⟩ := bd hq
            refine E_cV1I d_Mo_readAny_194 ck_Mo_241 rfl rfl eq10 (Nat.le_of_ble_eq_true rfl) (Nat.le_of_ble_eq_true rfl) (t_Mo_isSign (by omega) ep9) ?_
            refine E_zne (tgt := 206) d_Mo_readAny_197 (by decide) (fun c => ?_) (fun c => ?_)
            · rw [if_neg c] at hq
              refine E_aln 0 d_Mo_readAny_206 rfl rfl ?_
              refine E_aln 0 d_Mo_readAny_207 rfl rfl ?_
              obtain ⟨v11, ev11, hq⟩ := bd hq
              refine E_gI d_Mo_readAny_208 lk_Mo_250 rfl ev11 ?_
              refine E_ic (v := 1) d_Mo_readAny_211 (by decide) ?_
              refine E_isub d_Mo_readAny_212 ?_
              obtain ⟨h12, eh12, hq⟩ := bd hq
              refine E_pI d_Mo_readAny_213 lp_Mo_m_250 rfl eh12 ?_
              refine E_iln 1 d_Mo_readAny_216 rfl rfl ?_
              refine E_ic (v := 1) d_Mo_readAny_217 (by decide) ?_
              refine E_isub d_Mo_readAny_218 ?_
              refine E_isn (ls' := [(1, .int (x1 - 1)), (0, .ref a0), (2, .int x2)]) d_Mo_readAny_219 (Nat.le_of_ble_eq_true rfl) rfl ?_
              refine E_aln 1 d_Mo_readAny_220 rfl rfl ?_
              refine E_aln 1 d_Mo_readAny_221 rfl rfl ?_
              obtain ⟨v13, ev13, hq⟩ := bd hq
              refine E_gI d_Mo_readAny_222 lk_Mo_253 rfl ev13 ?_
              refine E_ic (v := 1) d_Mo_readAny_225 (by decide) ?_
              refine E_isub d_Mo_readAny_226 ?_
              obtain ⟨h14, eh14, hq⟩ := bd hq
              refine E_pI d_Mo_readAny_227 lp_Mo_m_253 rfl eh14 ?_
              refine E_aln 1 d_Mo_readAny_230 rfl rfl ?_
              refine E_bi (v := 9) d_Mo_readAny_231 (by decide) ?_
              obtain ⟨q16, eq16, hq⟩ := bd hq
              obtain ⟨h15, eh15, hq⟩ := bd hq
              refine E_cV1V d_Mo_readAny_233 ck_Mo_265 rfl rfl eq16 (Nat.le_of_ble_eq_true rfl) (Nat.le_of_ble_eq_true rfl) (t_Mo_settles (by omega) eh15) ?_
              refine E_aln 1 d_Mo_readAny_236 rfl rfl ?_
              obtain ⟨q18, eq18, hq⟩ := bd hq
              obtain ⟨h17, eh17, hq⟩ := bd hq
              refine E_cV0V d_Mo_readAny_237 ck_Mo_234 rfl rfl eq18 (Nat.le_of_ble_eq_true rfl) (Nat.le_of_ble_eq_true rfl) (t_Mo_reads (by omega) eh17) ?_
              refine E_goto (tgt := 9) d_Mo_readAny_240 (by decide) ?_
              exact E_sub (ks := [1, 0, 2]) rfl <| ih _ _ _ _ _ hq
            · rw [if_pos c] at hq
              refine E_aln 0 d_Mo_readAny_200 rfl rfl ?_
              refine E_ic (v := 1) d_Mo_readAny_201 (by decide) ?_
              obtain ⟨q20, eq20, hq⟩ := bd hq
              obtain ⟨p19, ep19, hq⟩ := bd hq
              refine E_cV1I d_Mo_readAny_202 ck_Mo_227 rfl rfl eq20 (Nat.le_of_ble_eq_true rfl) (Nat.le_of_ble_eq_true rfl) (t_Mo_errs (by omega) ep19) ?_
              exact E_rI d_Mo_readAny_205 rfl hq
          · rw [if_pos c] at hq
            refine E_ic (v := 0) d_Mo_readAny_189 (by decide) ?_
            exact E_rI d_Mo_readAny_190 rfl hq
        · rw [if_neg c] at hq
          refine E_aln 0 d_Mo_readAny_146 rfl rfl ?_
          refine E_bi (v := 10) d_Mo_readAny_147 (by decide) ?_
          obtain ⟨q22, eq22, hq⟩ := bd hq
          obtain ⟨h21, eh21, hq⟩ := bd hq
          refine E_cV1V d_Mo_readAny_149 ck_Mo_265 rfl rfl eq22 (Nat.le_of_ble_eq_true rfl) (Nat.le_of_ble_eq_true rfl) (t_Mo_settles (by omega) eh21) ?_
          refine E_aln 0 d_Mo_readAny_152 rfl rfl ?_
          refine E_bi (v := 11) d_Mo_readAny_153 (by decide) ?_
          obtain ⟨q24, eq24, hq⟩ := bd hq
          obtain ⟨h23, eh23, hq⟩ := bd hq
          refine E_cV1V d_Mo_readAny_155 ck_Mo_265 rfl rfl eq24 (Nat.le_of_ble_eq_true rfl) (Nat.le_of_ble_eq_true rfl) (t_Mo_settles (by omega) eh23) ?_
          refine E_aln 0 d_Mo_readAny_158 rfl rfl ?_
          refine E_bi (v := 11) d_Mo_readAny_159 (by decide) ?_
          obtain ⟨q26, eq26, hq⟩ := bd hq
          obtain ⟨h25, eh25, hq⟩ := bd hq
          refine E_cV1V d_Mo_readAny_161 ck_Mo_259 rfl rfl eq26 (Nat.le_of_ble_eq_true rfl) (Nat.le_of_ble_eq_true rfl) (t_Mo_waits (by omega) eh25) ?_
          refine E_aln 0 d_Mo_readAny_164 rfl rfl ?_
          obtain ⟨q28, eq28, hq⟩ := bd hq
          obtain ⟨h27, eh27, hq⟩ := bd hq
          refine E_cV0V d_Mo_readAny_165 ck_Mo_234 rfl rfl eq28 (Nat.le_of_ble_eq_true rfl) (Nat.le_of_ble_eq_true rfl) (t_Mo_reads (by omega) eh27) ?_
          refine E_ic (v := 1) d_Mo_readAny_168 (by decide) ?_
          refine E_isn (ls' := [(2, .int 1), (0, .ref a0), (1, .int x1)]) d_Mo_readAny_169 (Nat.le_of_ble_eq_true rfl) rfl ?_
          refine E_goto (tgt := 9) d_Mo_readAny_170 (by decide) ?_
          exact E_sub (ks := [1, 2, 0]) rfl <| ih _ _ _ _ _ hq
      · rw [if_neg c] at hq
        refine E_aln 0 d_Mo_readAny_117 rfl rfl ?_
        refine E_bi (v := 10) d_Mo_readAny_118 (by decide) ?_
        obtain ⟨q30, eq30, hq⟩ := bd hq
        obtain ⟨h29, eh29, hq⟩ := bd hq
        refine E_cV1V d_Mo_readAny_120 ck_Mo_265 rfl rfl eq30 (Nat.le_of_ble_eq_true rfl) (Nat.le_of_ble_eq_true rfl) (t_Mo_settles (by omega) eh29) ?_
        refine E_aln 0 d_Mo_readAny_123 rfl rfl ?_
        refine E_bi (v := 10) d_Mo_readAny_124 (by decide) ?_
        obtain ⟨q32, eq32, hq⟩ := bd hq
        obtain ⟨h31, eh31, hq⟩ := bd hq
        refine E_cV1V d_Mo_readAny_126 ck_Mo_259 rfl rfl eq32 (Nat.le_of_ble_eq_true rfl) (Nat.le_of_ble_eq_true rfl) (t_Mo_waits (by omega) eh31) ?_
        refine E_aln 0 d_Mo_readAny_129 rfl rfl ?_
        obtain ⟨q34, eq34, hq⟩ := bd hq
        obtain ⟨h33, eh33, hq⟩ := bd hq
        refine E_cV0V d_Mo_readAny_130 ck_Mo_234 rfl rfl eq34 (Nat.le_of_ble_eq_true rfl) (Nat.le_of_ble_eq_true rfl) (t_Mo_reads (by omega) eh33) ?_
        refine E_ic (v := 1) d_Mo_readAny_133 (by decide) ?_
        refine E_isn (ls' := [(2, .int 1), (0, .ref a0), (1, .int x1)]) d_Mo_readAny_134 (Nat.le_of_ble_eq_true rfl) rfl ?_
        refine E_goto (tgt := 9) d_Mo_readAny_135 (by decide) ?_
        exact E_sub (ks := [1, 2, 0]) rfl <| ih _ _ _ _ _ hq
    · rw [if_neg c] at hq
      refine E_aln 0 d_Mo_readAny_13 rfl rfl ?_
      refine E_bi (v := 6) d_Mo_readAny_14 (by decide) ?_
      obtain ⟨q36, eq36, hq⟩ := bd hq
      obtain ⟨p35, ep35, hq⟩ := bd hq
      refine E_cV1I d_Mo_readAny_16 ck_Mo_256 rfl rfl eq36 (Nat.le_of_ble_eq_true rfl) (Nat.le_of_ble_eq_true rfl) (t_Mo_isWord (by omega) ep35) ?_
      refine E_isn (ls' := [(3, .int p35.1), (0, .ref a0), (1, .int x1), (2, .int x2)]) d_Mo_readAny_19 (Nat.le_of_ble_eq_true rfl) rfl ?_
      refine E_iln 0 d_Mo_readAny_20 rfl rfl ?_
      refine E_zne (tgt := 33) d_Mo_readAny_21 (by decide) (fun c => ?_) (fun c => ?_)
      · rw [if_neg c] at hq
        exact E_sub (ks := [1, 2, 3, 0]) rfl <| t_Mo_readAny_33 (by omega) ih hq
      · rw [if_pos c] at hq
        refine E_aln 1 d_Mo_readAny_24 rfl rfl ?_
        refine E_bi (v := 40) d_Mo_readAny_25 (by decide) ?_
        obtain ⟨q38, eq38, hq⟩ := bd hq
        obtain ⟨p37, ep37, hq⟩ := bd hq
        refine E_cV1I d_Mo_readAny_27 ck_Mo_241 rfl rfl eq38 (Nat.le_of_ble_eq_true rfl) (Nat.le_of_ble_eq_true rfl) (t_Mo_isSign (by omega) ep37) ?_
        refine E_zeq (tgt := 88) d_Mo_readAny_30 (by decide) (fun c => ?_) (fun c => ?_)
        · rw [if_pos c] at hq
          refine E_aln 1 d_Mo_readAny_88 rfl rfl ?_
          obtain ⟨q40, eq40, hq⟩ := bd hq
          obtain ⟨p39, ep39, hq⟩ := bd hq
          refine E_cV0I d_Mo_readAny_89 ck_Mo_262 rfl rfl eq40 (Nat.le_of_ble_eq_true rfl) (Nat.le_of_ble_eq_true rfl) (t_Mo_readCompared (by omega) ep39) ?_
          refine E_ic (v := (-1)) d_Mo_readAny_92 (by decide) ?_
          refine E_jne (tgt := 98) d_Mo_readAny_93 (by decide) (fun c => ?_) (fun c => ?_)
          · rw [if_neg c] at hq
            refine E_aln 1 d_Mo_readAny_98 rfl rfl ?_
            refine E_bi (v := 9) d_Mo_readAny_99 (by decide) ?_
            obtain ⟨q42, eq42, hq⟩ := bd hq
            obtain ⟨h41, eh41, hq⟩ := bd hq
            refine E_cV1V d_Mo_readAny_101 ck_Mo_265 rfl rfl eq42 (Nat.le_of_ble_eq_true rfl) (Nat.le_of_ble_eq_true rfl) (t_Mo_settles (by omega) eh41) ?_
            refine E_ic (v := 0) d_Mo_readAny_104 (by decide) ?_
            refine E_isn (ls' := [(2, .int 0), (3, .int p35.1), (0, .ref a0), (1, .int x1)]) d_Mo_readAny_105 (Nat.le_of_ble_eq_true rfl) rfl ?_
            refine E_goto (tgt := 9) d_Mo_readAny_106 (by decide) ?_
            exact E_sub (ks := [2, 3, 0]) rfl <| ih _ _ _ _ _ hq
          · rw [if_pos c] at hq
            refine E_ic (v := (-1)) d_Mo_readAny_96 (by decide) ?_
            exact E_rI d_Mo_readAny_97 rfl hq
        · rw [if_neg c] at hq
          exact E_sub (ks := [1, 2, 3, 0]) rfl <| t_Mo_readAny_33 (by omega) ih hq
def f_Mo_readAny (a0 : Nat) (h : PH) : Option (Int32 × PH) :=
  (stI h 9 a0 31 0).bind fun h1 =>
  f_Mo_readAny_9 FU a0 0 1 h1
theorem t_Mo_readAny {d : Nat} (hd : 7 ≤ d) {a0 : Nat} {h : PH} {r : Int32 × PH} (hq : f_Mo_readAny a0 h = some r) : E d 0 0 m_Mo_readAny 0 [(0, .ref a0)] [] h (PI r) := by
  unfold f_Mo_readAny at hq
  obtain ⟨d, rfl⟩ : ∃ e, d = e + 1 := ⟨d - 1, by omega⟩
  refine E_ic (v := 0) d_Mo_readAny_0 (by decide) ?_
  refine E_isn (ls' := [(1, .int 0), (0, .ref a0)]) d_Mo_readAny_1 (Nat.le_of_ble_eq_true rfl) rfl ?_
  refine E_aln 1 d_Mo_readAny_2 rfl rfl ?_
  refine E_ic (v := 0) d_Mo_readAny_3 (by decide) ?_
  obtain ⟨h1, eh1, hq⟩ := bd hq
  refine E_pI d_Mo_readAny_4 lp_Mo_m_250 rfl eh1 ?_
  refine E_ic (v := 1) d_Mo_readAny_7 (by decide) ?_
  refine E_isn (ls' := [(2, .int 1), (1, .int 0), (0, .ref a0)]) d_Mo_readAny_8 (Nat.le_of_ble_eq_true rfl) rfl ?_
  exact E_sub (ks := [2, 1, 0]) rfl <| t_Mo_readAny_9 (by omega) _ _ _ _ _ _ hq
def f_Mo_readLaw_92 (k2 : Nat → Int32 → PH → Option (Int32 × PH)) (a0 : Nat) (x1 : Int32) (x2 : Int32) (h : PH) : Option (Int32 × PH) :=
  (ldR h 9 a0 24).bind fun v1 =>
  (ldI h 9 a0 28).bind fun v2 =>
  (wrA h v1 x2 v2).bind fun h3 =>
  (isO h3 9 a0).bind fun _ =>
  (f_Mo_isSign a0 59 h3).bind fun p4 =>
  if p4.1 = 0 then
    (isO p4.2 9 a0).bind fun _ =>
    (f_Mo_errs a0 1 p4.2).bind fun p8 =>
    some (p8.1, p8.2)
  else
    (isO p4.2 9 a0).bind fun _ =>
    (f_Mo_reads a0  p4.2).bind fun h6 =>
    k2 a0 (x1 + 1) h6
theorem t_Mo_readLaw_92 {d : Nat} (hd : 8 ≤ d) {k2 : Nat → Int32 → PH → Option (Int32 × PH)} (hk2 : ∀ (a0 : Nat) (x1 : Int32) (h : PH) (r : Int32 × PH), k2 a0 x1 h = some r → E d 0 0 m_Mo_readLaw 2 [(0, .ref a0), (1, .int x1)] [] h (PI r)) {a0 : Nat} {x1 : Int32} {x2 : Int32} {h : PH} {r : Int32 × PH} (hq : f_Mo_readLaw_92 k2 a0 x1 x2 h = some r) : E d 0 0 m_Mo_readLaw 92 [(0, .ref a0), (1, .int x1), (2, .int x2)] [] h (PI r) := by
  unfold f_Mo_readLaw_92 at hq
  obtain ⟨d, rfl⟩ : ∃ e, d = e + 1 := ⟨d - 1, by omega⟩
  refine E_aln 0 d_Mo_readLaw_92 rfl rfl ?_
  obtain ⟨v1, ev1, hq⟩ := bd hq
  refine E_gR d_Mo_readLaw_93 lk_Mo_52 rfl ev1 ?_
  refine E_iln 2 d_Mo_readLaw_96 rfl rfl ?_
  refine E_aln 0 d_Mo_readLaw_97 rfl rfl ?_
  obtain ⟨v2, ev2, hq⟩ := bd hq
  refine E_gI d_Mo_readLaw_98 lk_Mo_221 rfl ev2 ?_
  obtain ⟨h3, eh3, hq⟩ := bd hq
  refine E_wa d_Mo_readLaw_101 eh3 ?_
  refine E_aln 0 d_Mo_readLaw_102 rfl rfl ?_
  refine E_bi (v := 59) d_Mo_readLaw_103 (by decide) ?_
  obtain ⟨q5, eq5, hq⟩ := bd hq
  obtain ⟨p4, ep4, hq⟩ := bd hq
  refine E_cV1I d_Mo_readLaw_105 ck_Mo_241 rfl rfl eq5 (Nat.le_of_ble_eq_true rfl) (Nat.le_of_ble_eq_true rfl) (t_Mo_isSign (by omega) ep4) ?_
  refine E_zne (tgt := 117) d_Mo_readLaw_108 (by decide) (fun c => ?_) (fun c => ?_)
  · rw [if_neg c] at hq
    refine E_aln 0 d_Mo_readLaw_117 rfl rfl ?_
    obtain ⟨q7, eq7, hq⟩ := bd hq
    obtain ⟨h6, eh6, hq⟩ := bd hq
    refine E_cV0V d_Mo_readLaw_118 ck_Mo_234 rfl rfl eq7 (Nat.le_of_ble_eq_true rfl) (Nat.le_of_ble_eq_true rfl) (t_Mo_reads (by omega) eh6) ?_
    refine E_iln 1 d_Mo_readLaw_121 rfl rfl ?_
    refine E_ic (v := 1) d_Mo_readLaw_122 (by decide) ?_
    refine E_iadd d_Mo_readLaw_123 ?_
    refine E_isn (ls' := [(1, .int (x1 + 1)), (0, .ref a0), (2, .int x2)]) d_Mo_readLaw_124 (Nat.le_of_ble_eq_true rfl) rfl ?_
    refine E_goto (tgt := 2) d_Mo_readLaw_125 (by decide) ?_
    exact E_sub (ks := [1, 0]) rfl <| hk2 _ _ _ _ hq
  · rw [if_pos c] at hq
    refine E_aln 0 d_Mo_readLaw_111 rfl rfl ?_
    refine E_ic (v := 1) d_Mo_readLaw_112 (by decide) ?_
    obtain ⟨q9, eq9, hq⟩ := bd hq
    obtain ⟨p8, ep8, hq⟩ := bd hq
    refine E_cV1I d_Mo_readLaw_113 ck_Mo_227 rfl rfl eq9 (Nat.le_of_ble_eq_true rfl) (Nat.le_of_ble_eq_true rfl) (t_Mo_errs (by omega) ep8) ?_
    exact E_rI d_Mo_readLaw_116 rfl hq
def f_Mo_readLaw_2 : Nat → Nat → Int32 → PH → Option (Int32 × PH)
  | 0, _, _, _ => none
  | n + 1, a0, x1, h =>
    (isO h 9 a0).bind fun _ =>
    (f_Mo_isLineWord a0  h).bind fun p1 =>
    if p1.1 = 0 then
      (ldI p1.2 9 a0 17).bind fun v3 =>
      if v3 = 0 then
        some (x1, p1.2)
      else
        (isO p1.2 9 a0).bind fun _ =>
        (f_Mo_errs a0 1 p1.2).bind fun p4 =>
        some (p4.1, p4.2)
    else
      if x1 = 16 then
        (isO p1.2 9 a0).bind fun _ =>
        (f_Mo_errs a0 3 p1.2).bind fun p25 =>
        some (p25.1, p25.2)
      else
        (ldR p1.2 9 a0 21).bind fun v6 =>
        (ldI p1.2 9 a0 18).bind fun v7 =>
        (wrA p1.2 v6 (32 + x1) v7).bind fun h8 =>
        (isO h8 9 a0).bind fun _ =>
        (f_Mo_reads a0  h8).bind fun h9 =>
        (ldR h9 9 a0 22).bind fun v11 =>
        (ldI h9 9 a0 28).bind fun v12 =>
        (wrA h9 v11 (32 + x1) v12).bind fun h13 =>
        (isO h13 9 a0).bind fun _ =>
        (f_Mo_readSum a0  h13).bind fun p14 =>
        if p14.1 = (-1) then
          some ((-1), p14.2)
        else
          (ldR p14.2 9 a0 23).bind fun v16 =>
          (ldI p14.2 9 a0 28).bind fun v17 =>
          (wrA p14.2 v16 (32 + x1) v17).bind fun h18 =>
          (isO h18 9 a0).bind fun _ =>
          (f_Mo_isWord a0 3 h18).bind fun p19 =>
          if p19.1 = 0 then
            f_Mo_readLaw_92 (fun a0 x1 h => f_Mo_readLaw_2 n a0 x1 h) a0 x1 (32 + x1) p19.2
          else
            (isO p19.2 9 a0).bind fun _ =>
            (f_Mo_reads a0  p19.2).bind fun h21 =>
            (isO h21 9 a0).bind fun _ =>
            (f_Mo_readAny a0  h21).bind fun p23 =>
            if p23.1 = (-1) then
              some ((-1), p23.2)
            else
              f_Mo_readLaw_92 (fun a0 x1 h => f_Mo_readLaw_2 n a0 x1 h) a0 x1 (32 + x1) p23.2
theorem t_Mo_readLaw_2 {d : Nat} (hd : 8 ≤ d) : ∀ (n : Nat) (a0 : Nat) (x1 : Int32) (h : PH) (r : Int32 × PH), f_Mo_readLaw_2 n a0 x1 h = some r → E d 0 0 m_Mo_readLaw 2 [(0, .ref a0), (1, .int x1)] [] h (PI r) := by
  intro n
  induction n with
  | zero => intro a0 x1 h r hq; rw [f_Mo_readLaw_2] at hq; cases hq
  | succ n ih =>
    intro a0 x1 h r hq
    rw [f_Mo_readLaw_2] at hq
    obtain ⟨d, rfl⟩ : ∃ e, d = e + 1 := ⟨d - 1, by omega⟩
    refine E_aln 0 d_Mo_readLaw_2 rfl rfl ?_
    obtain ⟨q2, eq2, hq⟩ := bd hq
    obtain ⟨p1, ep1, hq⟩ := bd hq
    refine E_cV0I d_Mo_readLaw_3 ck_Mo_268 rfl rfl eq2 (Nat.le_of_ble_eq_true rfl) (Nat.le_of_ble_eq_true rfl) (t_Mo_isLineWord (by omega) ep1) ?_
    refine E_zeq (tgt := 128) d_Mo_readLaw_6 (by decide) (fun c => ?_) (fun c => ?_)
    · rw [if_pos c] at hq
      refine E_aln 0 d_Mo_readLaw_128 rfl rfl ?_
      obtain ⟨v3, ev3, hq⟩ := bd hq
      refine E_gI d_Mo_readLaw_129 lk_Mo_196 rfl ev3 ?_
      refine E_zne (tgt := 139) d_Mo_readLaw_132 (by decide) (fun c => ?_) (fun c => ?_)
      · rw [if_neg c] at hq
        refine E_aln 0 d_Mo_readLaw_139 rfl rfl ?_
        refine E_ic (v := 1) d_Mo_readLaw_140 (by decide) ?_
        obtain ⟨q5, eq5, hq⟩ := bd hq
        obtain ⟨p4, ep4, hq⟩ := bd hq
        refine E_cV1I d_Mo_readLaw_141 ck_Mo_227 rfl rfl eq5 (Nat.le_of_ble_eq_true rfl) (Nat.le_of_ble_eq_true rfl) (t_Mo_errs (by omega) ep4) ?_
        exact E_rI d_Mo_readLaw_144 rfl hq
      · rw [if_pos c] at hq
        refine E_iln 1 d_Mo_readLaw_135 rfl rfl ?_
        refine E_goto (tgt := 144) d_Mo_readLaw_136 (by decide) ?_
        exact E_rI d_Mo_readLaw_144 rfl hq
    · rw [if_neg c] at hq
      refine E_iln 1 d_Mo_readLaw_9 rfl rfl ?_
      refine E_bi (v := 16) d_Mo_readLaw_10 (by decide) ?_
      refine E_jne (tgt := 21) d_Mo_readLaw_12 (by decide) (fun c => ?_) (fun c => ?_)
      · rw [if_neg c] at hq
        refine E_bi (v := 32) d_Mo_readLaw_21 (by decide) ?_
        refine E_iln 1 d_Mo_readLaw_23 rfl rfl ?_
        refine E_iadd d_Mo_readLaw_24 ?_
        refine E_isn (ls' := [(2, .int (32 + x1)), (0, .ref a0), (1, .int x1)]) d_Mo_readLaw_25 (Nat.le_of_ble_eq_true rfl) rfl ?_
        refine E_aln 1 d_Mo_readLaw_26 rfl rfl ?_
        obtain ⟨v6, ev6, hq⟩ := bd hq
        refine E_gR d_Mo_readLaw_27 lk_Mo_43 rfl ev6 ?_
        refine E_iln 0 d_Mo_readLaw_30 rfl rfl ?_
        refine E_aln 1 d_Mo_readLaw_31 rfl rfl ?_
        obtain ⟨v7, ev7, hq⟩ := bd hq
        refine E_gI d_Mo_readLaw_32 lk_Mo_199 rfl ev7 ?_
        obtain ⟨h8, eh8, hq⟩ := bd hq
        refine E_wa d_Mo_readLaw_35 eh8 ?_
        refine E_aln 1 d_Mo_readLaw_36 rfl rfl ?_
        obtain ⟨q10, eq10, hq⟩ := bd hq
        obtain ⟨h9, eh9, hq⟩ := bd hq
        refine E_cV0V d_Mo_readLaw_37 ck_Mo_234 rfl rfl eq10 (Nat.le_of_ble_eq_true rfl) (Nat.le_of_ble_eq_true rfl) (t_Mo_reads (by omega) eh9) ?_
        refine E_aln 1 d_Mo_readLaw_40 rfl rfl ?_
        obtain ⟨v11, ev11, hq⟩ := bd hq
        refine E_gR d_Mo_readLaw_41 lk_Mo_46 rfl ev11 ?_
        refine E_iln 0 d_Mo_readLaw_44 rfl rfl ?_
        refine E_aln 1 d_Mo_readLaw_45 rfl rfl ?_
        obtain ⟨v12, ev12, hq⟩ := bd hq
        refine E_gI d_Mo_readLaw_46 lk_Mo_221 rfl ev12 ?_
        obtain ⟨h13, eh13, hq⟩ := bd hq
        refine E_wa d_Mo_readLaw_49 eh13 ?_
        refine E_aln 1 d_Mo_readLaw_50 rfl rfl ?_
        obtain ⟨q15, eq15, hq⟩ := bd hq
        obtain ⟨p14, ep14, hq⟩ := bd hq
        refine E_cV0I d_Mo_readLaw_51 ck_Mo_247 rfl rfl eq15 (Nat.le_of_ble_eq_true rfl) (Nat.le_of_ble_eq_true rfl) (t_Mo_readSum (by omega) ep14) ?_
        refine E_ic (v := (-1)) d_Mo_readLaw_54 (by decide) ?_
        refine E_jne (tgt := 60) d_Mo_readLaw_55 (by decide) (fun c => ?_) (fun c => ?_)
        · rw [if_neg c] at hq
          refine E_aln 1 d_Mo_readLaw_60 rfl rfl ?_
          obtain ⟨v16, ev16, hq⟩ := bd hq
          refine E_gR d_Mo_readLaw_61 lk_Mo_49 rfl ev16 ?_
          refine E_iln 0 d_Mo_readLaw_64 rfl rfl ?_
          refine E_aln 1 d_Mo_readLaw_65 rfl rfl ?_
          obtain ⟨v17, ev17, hq⟩ := bd hq
          refine E_gI d_Mo_readLaw_66 lk_Mo_221 rfl ev17 ?_
          obtain ⟨h18, eh18, hq⟩ := bd hq
          refine E_wa d_Mo_readLaw_69 eh18 ?_
          refine E_aln 1 d_Mo_readLaw_70 rfl rfl ?_
          refine E_ic (v := 3) d_Mo_readLaw_71 (by decide) ?_
          obtain ⟨q20, eq20, hq⟩ := bd hq
          obtain ⟨p19, ep19, hq⟩ := bd hq
          refine E_cV1I d_Mo_readLaw_72 ck_Mo_256 rfl rfl eq20 (Nat.le_of_ble_eq_true rfl) (Nat.le_of_ble_eq_true rfl) (t_Mo_isWord (by omega) ep19) ?_
          refine E_zeq (tgt := 92) d_Mo_readLaw_75 (by decide) (fun c => ?_) (fun c => ?_)
          · rw [if_pos c] at hq
            exact E_sub (ks := [1, 2, 0]) rfl <| t_Mo_readLaw_92 (by omega) ih hq
          · rw [if_neg c] at hq
            refine E_aln 1 d_Mo_readLaw_78 rfl rfl ?_
            obtain ⟨q22, eq22, hq⟩ := bd hq
            obtain ⟨h21, eh21, hq⟩ := bd hq
            refine E_cV0V d_Mo_readLaw_79 ck_Mo_234 rfl rfl eq22 (Nat.le_of_ble_eq_true rfl) (Nat.le_of_ble_eq_true rfl) (t_Mo_reads (by omega) eh21) ?_
            refine E_aln 1 d_Mo_readLaw_82 rfl rfl ?_
            obtain ⟨q24, eq24, hq⟩ := bd hq
            obtain ⟨p23, ep23, hq⟩ := bd hq
            refine E_cV0I d_Mo_readLaw_83 ck_Mo_272 rfl rfl eq24 (Nat.le_of_ble_eq_true rfl) (Nat.le_of_ble_eq_true rfl) (t_Mo_readAny (by omega) ep23) ?_
            refine E_ic (v := (-1)) d_Mo_readLaw_86 (by decide) ?_
            refine E_jne (tgt := 92) d_Mo_readLaw_87 (by decide) (fun c => ?_) (fun c => ?_)
            · rw [if_neg c] at hq
              exact E_sub (ks := [1, 2, 0]) rfl <| t_Mo_readLaw_92 (by omega) ih hq
            · rw [if_pos c] at hq
              refine E_ic (v := (-1)) d_Mo_readLaw_90 (by decide) ?_
              exact E_rI d_Mo_readLaw_91 rfl hq
        · rw [if_pos c] at hq
          refine E_ic (v := (-1)) d_Mo_readLaw_58 (by decide) ?_
          exact E_rI d_Mo_readLaw_59 rfl hq
      · rw [if_pos c] at hq
        refine E_aln 0 d_Mo_readLaw_15 rfl rfl ?_
        refine E_ic (v := 3) d_Mo_readLaw_16 (by decide) ?_
        obtain ⟨q26, eq26, hq⟩ := bd hq
        obtain ⟨p25, ep25, hq⟩ := bd hq
        refine E_cV1I d_Mo_readLaw_17 ck_Mo_227 rfl rfl eq26 (Nat.le_of_ble_eq_true rfl) (Nat.le_of_ble_eq_true rfl) (t_Mo_errs (by omega) ep25) ?_
        exact E_rI d_Mo_readLaw_20 rfl hq
def f_Mo_readLaw (a0 : Nat) (h : PH) : Option (Int32 × PH) :=
  f_Mo_readLaw_2 FU a0 0 h
theorem t_Mo_readLaw {d : Nat} (hd : 8 ≤ d) {a0 : Nat} {h : PH} {r : Int32 × PH} (hq : f_Mo_readLaw a0 h = some r) : E d 0 0 m_Mo_readLaw 0 [(0, .ref a0)] [] h (PI r) := by
  unfold f_Mo_readLaw at hq
  obtain ⟨d, rfl⟩ : ∃ e, d = e + 1 := ⟨d - 1, by omega⟩
  refine E_ic (v := 0) d_Mo_readLaw_0 (by decide) ?_
  refine E_isn (ls' := [(1, .int 0), (0, .ref a0)]) d_Mo_readLaw_1 (Nat.le_of_ble_eq_true rfl) rfl ?_
  exact E_sub (ks := [1, 0]) rfl <| t_Mo_readLaw_2 (by omega) _ _ _ _ _ hq
