def f_Reader_pass (a0 : Nat) (x1 : Int32) (h : PH) : Option (Int32 × PH) :=
  (ldI h 4 a0 9).bind fun v1 =>
  if v1 = x1 then
    (isO h 4 a0).bind fun _ =>
    (f_Reader_advance a0  h).bind fun h2 =>
    rtZ 1 h2
  else
    (isO h 4 a0).bind fun _ =>
    (f_Reader_fail a0 1 h).bind fun p4 =>
    rtZ p4.1 p4.2
theorem t_Reader_pass {d : Nat} (hd : 1 ≤ d) {a0 : Nat} {x1 : Int32} {h : PH} {r : Int32 × PH} (hq : f_Reader_pass a0 x1 h = some r) : E d 0 0 m_Reader_pass 0 [(0, .ref a0), (1, .int x1)] [] h (PI r) := by
  unfold f_Reader_pass at hq
  obtain ⟨d, rfl⟩ : ∃ e, d = e + 1 := ⟨d - 1, by omega⟩
  refine E_aln 0 d_Reader_pass_0 rfl rfl ?_
  obtain ⟨v1, ev1, hq⟩ := bd hq
  refine E_gI d_Reader_pass_1 lk_Reader_50 rfl ev1 ?_
  refine E_iln 1 d_Reader_pass_4 rfl rfl ?_
  refine E_jeq (tgt := 14) d_Reader_pass_5 (by decide) (fun c => ?_) (fun c => ?_)
  · rw [if_pos c] at hq
    refine E_aln 0 d_Reader_pass_14 rfl rfl ?_
    obtain ⟨q3, eq3, hq⟩ := bd hq
    obtain ⟨h2, eh2, hq⟩ := bd hq
    refine E_cV0V d_Reader_pass_15 ck_Reader_106 rfl rfl eq3 (Nat.le_of_ble_eq_true rfl) (Nat.le_of_ble_eq_true rfl) (t_Reader_advance (by omega) eh2) ?_
    refine E_ic (v := 1) d_Reader_pass_18 (by decide) ?_
    exact E_rZ d_Reader_pass_19 rfl hq
  · rw [if_neg c] at hq
    refine E_aln 0 d_Reader_pass_8 rfl rfl ?_
    refine E_ic (v := 1) d_Reader_pass_9 (by decide) ?_
    obtain ⟨q5, eq5, hq⟩ := bd hq
    obtain ⟨p4, ep4, hq⟩ := bd hq
    refine E_cV1I d_Reader_pass_10 ck_Reader_103 rfl rfl eq5 (Nat.le_of_ble_eq_true rfl) (Nat.le_of_ble_eq_true rfl) (t_Reader_fail (by omega) ep4) ?_
    exact E_rZ d_Reader_pass_13 rfl hq
/-! the two that call each other -/
def RecH (f : Nat → Int32 → PH → Option (Int32 × PH)) (M : MT) (d : Nat) : Prop := ∀ (a0 : Nat) (x1 : Int32) (h : PH) (r : Int32 × PH), f a0 x1 h = some r → ∀ e, e + 1 = d → E e 0 0 M 0 [(0, .ref a0), (1, .int x1)] [] h (PI r)
def f_Reader_single_30 (fc fs : Nat → Int32 → PH → Option (Int32 × PH)) (a0 : Nat) (x1 : Int32) (x2 : Int32) (h : PH) : Option (Int32 × PH) :=
  if x1 < 8 then
    (isO h 4 a0).bind fun _ =>
    (f_Reader_advance a0  h).bind fun h1 =>
    if x2 = 0 then
      (isO h1 4 a0).bind fun _ =>
      (fc a0 (x1 + 1) h1).bind fun p8 =>
      if p8.1 = 0 then
        rtZ 0 p8.2
      else
        (isO p8.2 4 a0).bind fun _ =>
        (f_Reader_pass a0 10041 p8.2).bind fun p10 =>
        if p10.1 = 0 then
          rtZ 0 p10.2
        else
          rtZ 1 p10.2
    else
      (isO h1 4 a0).bind fun _ =>
      (fs a0 (x1 + 1) h1).bind fun p3 =>
      if p3.1 = 0 then
        rtZ 0 p3.2
      else
        (ldR p3.2 4 a0 4).bind fun v5 =>
        (isO p3.2 2 v5).bind fun _ =>
        (f_Law_write v5 (-20) p3.2).bind fun h6 =>
        rtZ 1 h6
  else
    (isO h 4 a0).bind fun _ =>
    (f_Reader_fail a0 3 h).bind fun p12 =>
    rtZ p12.1 p12.2
theorem t_Reader_single_30 {d : Nat} (hd : 3 ≤ d) {fc fs : Nat → Int32 → PH → Option (Int32 × PH)} (hfc : RecH fc m_Reader_choice d) (hfs : RecH fs m_Reader_single d) {a0 : Nat} {x1 : Int32} {x2 : Int32} {h : PH} {r : Int32 × PH} (hq : f_Reader_single_30 fc fs a0 x1 x2 h = some r) : E d 0 0 m_Reader_single 30 [(0, .ref a0), (1, .int x1), (2, .int x2)] [] h (PI r) := by
  unfold f_Reader_single_30 at hq
  obtain ⟨d, rfl⟩ : ∃ e, d = e + 1 := ⟨d - 1, by omega⟩
  refine E_iln 1 d_Reader_single_30 rfl rfl ?_
  refine E_bi (v := 8) d_Reader_single_31 (by decide) ?_
  refine E_jlt (tgt := 42) d_Reader_single_33 (by decide) (fun c => ?_) (fun c => ?_)
  · rw [if_pos c] at hq
    refine E_aln 0 d_Reader_single_42 rfl rfl ?_
    obtain ⟨q2, eq2, hq⟩ := bd hq
    obtain ⟨h1, eh1, hq⟩ := bd hq
    refine E_cV0V d_Reader_single_43 ck_Reader_106 rfl rfl eq2 (Nat.le_of_ble_eq_true rfl) (Nat.le_of_ble_eq_true rfl) (t_Reader_advance (by omega) eh1) ?_
    refine E_iln 2 d_Reader_single_46 rfl rfl ?_
    refine E_zne (tgt := 76) d_Reader_single_47 (by decide) (fun c => ?_) (fun c => ?_)
    · rw [if_neg c] at hq
      refine E_aln 0 d_Reader_single_76 rfl rfl ?_
      refine E_iln 1 d_Reader_single_77 rfl rfl ?_
      refine E_ic (v := 1) d_Reader_single_78 (by decide) ?_
      refine E_iadd d_Reader_single_79 ?_
      obtain ⟨q4, eq4, hq⟩ := bd hq
      obtain ⟨p3, ep3, hq⟩ := bd hq
      refine E_cV1I d_Reader_single_80 ck_Reader_138 rfl rfl eq4 (Nat.le_of_ble_eq_true rfl) (Nat.le_of_ble_eq_true rfl) (hfs _ _ _ _ ep3 _ rfl) ?_
      refine E_zne (tgt := 88) d_Reader_single_83 (by decide) (fun c => ?_) (fun c => ?_)
      · rw [if_neg c] at hq
        refine E_aln 0 d_Reader_single_88 rfl rfl ?_
        obtain ⟨v5, ev5, hq⟩ := bd hq
        refine E_gR d_Reader_single_89 lk_Reader_28 rfl ev5 ?_
        refine E_bi (v := (-20)) d_Reader_single_92 (by decide) ?_
        obtain ⟨q7, eq7, hq⟩ := bd hq
        obtain ⟨h6, eh6, hq⟩ := bd hq
        refine E_cV1V d_Reader_single_94 ck_Reader_141 rfl rfl eq7 (Nat.le_of_ble_eq_true rfl) (Nat.le_of_ble_eq_true rfl) (t_Law_write (by omega) eh6) ?_
        refine E_ic (v := 1) d_Reader_single_97 (by decide) ?_
        exact E_rZ d_Reader_single_98 rfl hq
      · rw [if_pos c] at hq
        refine E_ic (v := 0) d_Reader_single_86 (by decide) ?_
        exact E_rZ d_Reader_single_87 rfl hq
    · rw [if_pos c] at hq
      refine E_aln 0 d_Reader_single_50 rfl rfl ?_
      refine E_iln 1 d_Reader_single_51 rfl rfl ?_
      refine E_ic (v := 1) d_Reader_single_52 (by decide) ?_
      refine E_iadd d_Reader_single_53 ?_
      obtain ⟨q9, eq9, hq⟩ := bd hq
      obtain ⟨p8, ep8, hq⟩ := bd hq
      refine E_cV1I d_Reader_single_54 ck_Reader_125 rfl rfl eq9 (Nat.le_of_ble_eq_true rfl) (Nat.le_of_ble_eq_true rfl) (hfc _ _ _ _ ep8 _ rfl) ?_
      refine E_zeq (tgt := 74) d_Reader_single_57 (by decide) (fun c => ?_) (fun c => ?_)
      · rw [if_pos c] at hq
        refine E_ic (v := 0) d_Reader_single_74 (by decide) ?_
        exact E_rZ d_Reader_single_75 rfl hq
      · rw [if_neg c] at hq
        refine E_aln 0 d_Reader_single_60 rfl rfl ?_
        refine E_si (v := 10041) d_Reader_single_61 (by decide) ?_
        obtain ⟨q11, eq11, hq⟩ := bd hq
        obtain ⟨p10, ep10, hq⟩ := bd hq
        refine E_cV1I d_Reader_single_64 ck_Reader_132 rfl rfl eq11 (Nat.le_of_ble_eq_true rfl) (Nat.le_of_ble_eq_true rfl) (t_Reader_pass (by omega) ep10) ?_
        refine E_zeq (tgt := 74) d_Reader_single_67 (by decide) (fun c => ?_) (fun c => ?_)
        · rw [if_pos c] at hq
          refine E_ic (v := 0) d_Reader_single_74 (by decide) ?_
          exact E_rZ d_Reader_single_75 rfl hq
        · rw [if_neg c] at hq
          refine E_ic (v := 1) d_Reader_single_70 (by decide) ?_
          refine E_goto (tgt := 75) d_Reader_single_71 (by decide) ?_
          exact E_rZ d_Reader_single_75 rfl hq
  · rw [if_neg c] at hq
    refine E_aln 0 d_Reader_single_36 rfl rfl ?_
    refine E_ic (v := 3) d_Reader_single_37 (by decide) ?_
    obtain ⟨q13, eq13, hq⟩ := bd hq
    obtain ⟨p12, ep12, hq⟩ := bd hq
    refine E_cV1I d_Reader_single_38 ck_Reader_103 rfl rfl eq13 (Nat.le_of_ble_eq_true rfl) (Nat.le_of_ble_eq_true rfl) (t_Reader_fail (by omega) ep12) ?_
    exact E_rZ d_Reader_single_41 rfl hq
def f_Reader_single_163 (fc fs : Nat → Int32 → PH → Option (Int32 × PH)) (a0 : Nat) (x3 : Int32) (h : PH) : Option (Int32 × PH) :=
  (isO h 4 a0).bind fun _ =>
  (f_Reader_advance a0  h).bind fun h1 =>
  (isO h1 4 a0).bind fun _ =>
  (f_Reader_sum a0  h1).bind fun p3 =>
  if p3.1 = 0 then
    rtZ 0 p3.2
  else
    (ldR p3.2 4 a0 4).bind fun v5 =>
    (isO p3.2 2 v5).bind fun _ =>
    (f_Law_write v5 x3 p3.2).bind fun h6 =>
    rtZ 1 h6
theorem t_Reader_single_163 {d : Nat} (hd : 3 ≤ d) {fc fs : Nat → Int32 → PH → Option (Int32 × PH)} (hfc : RecH fc m_Reader_choice d) (hfs : RecH fs m_Reader_single d) {a0 : Nat} {x3 : Int32} {h : PH} {r : Int32 × PH} (hq : f_Reader_single_163 fc fs a0 x3 h = some r) : E d 0 0 m_Reader_single 163 [(0, .ref a0), (3, .int x3)] [] h (PI r) := by
  unfold f_Reader_single_163 at hq
  obtain ⟨d, rfl⟩ : ∃ e, d = e + 1 := ⟨d - 1, by omega⟩
  refine E_aln 0 d_Reader_single_163 rfl rfl ?_
  obtain ⟨q2, eq2, hq⟩ := bd hq
  obtain ⟨h1, eh1, hq⟩ := bd hq
  refine E_cV0V d_Reader_single_164 ck_Reader_106 rfl rfl eq2 (Nat.le_of_ble_eq_true rfl) (Nat.le_of_ble_eq_true rfl) (t_Reader_advance (by omega) eh1) ?_
  refine E_aln 0 d_Reader_single_167 rfl rfl ?_
  obtain ⟨q4, eq4, hq⟩ := bd hq
  obtain ⟨p3, ep3, hq⟩ := bd hq
  refine E_cV0I d_Reader_single_168 ck_Reader_122 rfl rfl eq4 (Nat.le_of_ble_eq_true rfl) (Nat.le_of_ble_eq_true rfl) (t_Reader_sum (by omega) ep3) ?_
  refine E_zne (tgt := 176) d_Reader_single_171 (by decide) (fun c => ?_) (fun c => ?_)
  · rw [if_neg c] at hq
    refine E_aln 0 d_Reader_single_176 rfl rfl ?_
    obtain ⟨v5, ev5, hq⟩ := bd hq
    refine E_gR d_Reader_single_177 lk_Reader_28 rfl ev5 ?_
    refine E_iln 1 d_Reader_single_180 rfl rfl ?_
    obtain ⟨q7, eq7, hq⟩ := bd hq
    obtain ⟨h6, eh6, hq⟩ := bd hq
    refine E_cV1V d_Reader_single_181 ck_Reader_141 rfl rfl eq7 (Nat.le_of_ble_eq_true rfl) (Nat.le_of_ble_eq_true rfl) (t_Law_write (by omega) eh6) ?_
    refine E_ic (v := 1) d_Reader_single_184 (by decide) ?_
    exact E_rZ d_Reader_single_185 rfl hq
  · rw [if_pos c] at hq
    refine E_ic (v := 0) d_Reader_single_174 (by decide) ?_
    exact E_rZ d_Reader_single_175 rfl hq
def f_Reader_single_140 (fc fs : Nat → Int32 → PH → Option (Int32 × PH)) (a0 : Nat) (s0 : Int32) (h : PH) : Option (Int32 × PH) :=
  if s0 = (-17) then
    (ldI h 4 a0 9).bind fun v1 =>
    if v1 = 10062 then
      f_Reader_single_163 fc fs a0 s0 h
    else
      (isO h 4 a0).bind fun _ =>
      (f_Reader_fail a0 1 h).bind fun p2 =>
      rtZ p2.1 p2.2
  else
    f_Reader_single_163 fc fs a0 s0 h
theorem t_Reader_single_140 {d : Nat} (hd : 3 ≤ d) {fc fs : Nat → Int32 → PH → Option (Int32 × PH)} (hfc : RecH fc m_Reader_choice d) (hfs : RecH fs m_Reader_single d) {a0 : Nat} {s0 : Int32} {h : PH} {r : Int32 × PH} (hq : f_Reader_single_140 fc fs a0 s0 h = some r) : E d 0 0 m_Reader_single 140 [(0, .ref a0)] [.int s0] h (PI r) := by
  unfold f_Reader_single_140 at hq
  obtain ⟨d, rfl⟩ : ∃ e, d = e + 1 := ⟨d - 1, by omega⟩
  refine E_isn (ls' := [(3, .int s0), (0, .ref a0)]) d_Reader_single_140 (Nat.le_of_ble_eq_true rfl) rfl ?_
  refine E_iln 0 d_Reader_single_141 rfl rfl ?_
  refine E_bi (v := (-17)) d_Reader_single_142 (by decide) ?_
  refine E_jne (tgt := 163) d_Reader_single_144 (by decide) (fun c => ?_) (fun c => ?_)
  · rw [if_neg c] at hq
    exact E_sub (ks := [1, 0]) rfl <| t_Reader_single_163 (by omega) hfc hfs hq
  · rw [if_pos c] at hq
    refine E_aln 1 d_Reader_single_147 rfl rfl ?_
    obtain ⟨v1, ev1, hq⟩ := bd hq
    refine E_gI d_Reader_single_148 lk_Reader_50 rfl ev1 ?_
    refine E_si (v := 10062) d_Reader_single_151 (by decide) ?_
    refine E_jeq (tgt := 163) d_Reader_single_154 (by decide) (fun c => ?_) (fun c => ?_)
    · rw [if_pos c] at hq
      exact E_sub (ks := [1, 0]) rfl <| t_Reader_single_163 (by omega) hfc hfs hq
    · rw [if_neg c] at hq
      refine E_aln 1 d_Reader_single_157 rfl rfl ?_
      refine E_ic (v := 1) d_Reader_single_158 (by decide) ?_
      obtain ⟨q3, eq3, hq⟩ := bd hq
      obtain ⟨p2, ep2, hq⟩ := bd hq
      refine E_cV1I d_Reader_single_159 ck_Reader_103 rfl rfl eq3 (Nat.le_of_ble_eq_true rfl) (Nat.le_of_ble_eq_true rfl) (t_Reader_fail (by omega) ep2) ?_
      exact E_rZ d_Reader_single_162 rfl hq
def f_Reader_single_15 (fc fs : Nat → Int32 → PH → Option (Int32 × PH)) (a0 : Nat) (x1 : Int32) (s0 : Int32) (h : PH) : Option (Int32 × PH) :=
  if s0 = 0 then
    (ldI h 4 a0 9).bind fun v1 =>
    if v1 = 10040 then
      f_Reader_single_30 fc fs a0 x1 s0 h
    else
      (isO h 4 a0).bind fun _ =>
      (f_Reader_sum a0  h).bind fun p2 =>
      if p2.1 = 0 then
        rtZ 0 p2.2
      else
        (ldI p2.2 4 a0 9).bind fun v4 =>
        if v4 = 10060 then
          f_Reader_single_140 fc fs a0 (-15) p2.2
        else
          (ldI p2.2 4 a0 9).bind fun v5 =>
          if v5 = 10061 then
            f_Reader_single_140 fc fs a0 (-16) p2.2
          else
            f_Reader_single_140 fc fs a0 (-17) p2.2
  else
    f_Reader_single_30 fc fs a0 x1 s0 h
theorem t_Reader_single_15 {d : Nat} (hd : 3 ≤ d) {fc fs : Nat → Int32 → PH → Option (Int32 × PH)} (hfc : RecH fc m_Reader_choice d) (hfs : RecH fs m_Reader_single d) {a0 : Nat} {x1 : Int32} {s0 : Int32} {h : PH} {r : Int32 × PH} (hq : f_Reader_single_15 fc fs a0 x1 s0 h = some r) : E d 0 0 m_Reader_single 15 [(0, .ref a0), (1, .int x1)] [.int s0] h (PI r) := by
  unfold f_Reader_single_15 at hq
  obtain ⟨d, rfl⟩ : ∃ e, d = e + 1 := ⟨d - 1, by omega⟩
  refine E_isn (ls' := [(2, .int s0), (0, .ref a0), (1, .int x1)]) d_Reader_single_15 (Nat.le_of_ble_eq_true rfl) rfl ?_
  refine E_iln 0 d_Reader_single_16 rfl rfl ?_
  refine E_zne (tgt := 30) d_Reader_single_17 (by decide) (fun c => ?_) (fun c => ?_)
  · rw [if_neg c] at hq
    exact E_sub (ks := [1, 2, 0]) rfl <| t_Reader_single_30 (by omega) hfc hfs hq
  · rw [if_pos c] at hq
    refine E_aln 1 d_Reader_single_20 rfl rfl ?_
    obtain ⟨v1, ev1, hq⟩ := bd hq
    refine E_gI d_Reader_single_21 lk_Reader_50 rfl ev1 ?_
    refine E_si (v := 10040) d_Reader_single_24 (by decide) ?_
    refine E_jne (tgt := 99) d_Reader_single_27 (by decide) (fun c => ?_) (fun c => ?_)
    · rw [if_neg c] at hq
      refine E_aln 1 d_Reader_single_99 rfl rfl ?_
      obtain ⟨q3, eq3, hq⟩ := bd hq
      obtain ⟨p2, ep2, hq⟩ := bd hq
      refine E_cV0I d_Reader_single_100 ck_Reader_122 rfl rfl eq3 (Nat.le_of_ble_eq_true rfl) (Nat.le_of_ble_eq_true rfl) (t_Reader_sum (by omega) ep2) ?_
      refine E_zne (tgt := 108) d_Reader_single_103 (by decide) (fun c => ?_) (fun c => ?_)
      · rw [if_neg c] at hq
        refine E_aln 1 d_Reader_single_108 rfl rfl ?_
        obtain ⟨v4, ev4, hq⟩ := bd hq
        refine E_gI d_Reader_single_109 lk_Reader_50 rfl ev4 ?_
        refine E_si (v := 10060) d_Reader_single_112 (by decide) ?_
        refine E_jne (tgt := 123) d_Reader_single_115 (by decide) (fun c => ?_) (fun c => ?_)
        · rw [if_neg c] at hq
          refine E_aln 1 d_Reader_single_123 rfl rfl ?_
          obtain ⟨v5, ev5, hq⟩ := bd hq
          refine E_gI d_Reader_single_124 lk_Reader_50 rfl ev5 ?_
          refine E_si (v := 10061) d_Reader_single_127 (by decide) ?_
          refine E_jne (tgt := 138) d_Reader_single_130 (by decide) (fun c => ?_) (fun c => ?_)
          · rw [if_neg c] at hq
            refine E_bi (v := (-17)) d_Reader_single_138 (by decide) ?_
            exact E_sub (ks := [1]) rfl <| t_Reader_single_140 (by omega) hfc hfs hq
          · rw [if_pos c] at hq
            refine E_bi (v := (-16)) d_Reader_single_133 (by decide) ?_
            refine E_goto (tgt := 140) d_Reader_single_135 (by decide) ?_
            exact E_sub (ks := [1]) rfl <| t_Reader_single_140 (by omega) hfc hfs hq
        · rw [if_pos c] at hq
          refine E_bi (v := (-15)) d_Reader_single_118 (by decide) ?_
          refine E_goto (tgt := 140) d_Reader_single_120 (by decide) ?_
          exact E_sub (ks := [1]) rfl <| t_Reader_single_140 (by omega) hfc hfs hq
      · rw [if_pos c] at hq
        refine E_ic (v := 0) d_Reader_single_106 (by decide) ?_
        exact E_rZ d_Reader_single_107 rfl hq
    · rw [if_pos c] at hq
      exact E_sub (ks := [1, 2, 0]) rfl <| t_Reader_single_30 (by omega) hfc hfs hq
def f_Reader_single (fc fs : Nat → Int32 → PH → Option (Int32 × PH)) (a0 : Nat) (x1 : Int32) (h : PH) : Option (Int32 × PH) :=
  (ldI h 4 a0 9).bind fun v1 =>
  if v1 = 20022 then
    f_Reader_single_15 fc fs a0 x1 1 h
  else
    f_Reader_single_15 fc fs a0 x1 0 h
theorem t_Reader_single {d : Nat} (hd : 3 ≤ d) {fc fs : Nat → Int32 → PH → Option (Int32 × PH)} (hfc : RecH fc m_Reader_choice d) (hfs : RecH fs m_Reader_single d) {a0 : Nat} {x1 : Int32} {h : PH} {r : Int32 × PH} (hq : f_Reader_single fc fs a0 x1 h = some r) : E d 0 0 m_Reader_single 0 [(0, .ref a0), (1, .int x1)] [] h (PI r) := by
  unfold f_Reader_single at hq
  obtain ⟨d, rfl⟩ : ∃ e, d = e + 1 := ⟨d - 1, by omega⟩
  refine E_aln 0 d_Reader_single_0 rfl rfl ?_
  obtain ⟨v1, ev1, hq⟩ := bd hq
  refine E_gI d_Reader_single_1 lk_Reader_50 rfl ev1 ?_
  refine E_si (v := 20022) d_Reader_single_4 (by decide) ?_
  refine E_jne (tgt := 14) d_Reader_single_7 (by decide) (fun c => ?_) (fun c => ?_)
  · rw [if_neg c] at hq
    refine E_ic (v := 0) d_Reader_single_14 (by decide) ?_
    exact t_Reader_single_15 (by omega) hfc hfs hq
  · rw [if_pos c] at hq
    refine E_ic (v := 1) d_Reader_single_10 (by decide) ?_
    refine E_goto (tgt := 15) d_Reader_single_11 (by decide) ?_
    exact t_Reader_single_15 (by omega) hfc hfs hq
def f_Reader_choice_93 (fc fs : Nat → Int32 → PH → Option (Int32 × PH)) (k7 : Nat → Int32 → Int32 → Int32 → Int32 → PH → Option (Int32 × PH)) (a0 : Nat) (x1 : Int32) (x2 : Int32) (x3 : Int32) (x4 : Int32) (h : PH) : Option (Int32 × PH) :=
  (isO h 4 a0).bind fun _ =>
  (f_Reader_advance a0  h).bind fun h1 =>
  k7 a0 x1 x2 x3 (x4 + 1) h1
theorem t_Reader_choice_93 {d : Nat} (hd : 4 ≤ d) {fc fs : Nat → Int32 → PH → Option (Int32 × PH)} (hfc : RecH fc m_Reader_choice d) (hfs : RecH fs m_Reader_single d) {k7 : Nat → Int32 → Int32 → Int32 → Int32 → PH → Option (Int32 × PH)} (hk7 : ∀ (a0 : Nat) (x1 : Int32) (x2 : Int32) (x3 : Int32) (x4 : Int32) (h : PH) (r : Int32 × PH), k7 a0 x1 x2 x3 x4 h = some r → E d 0 0 m_Reader_choice 7 [(0, .ref a0), (1, .int x1), (2, .int x2), (3, .int x3), (4, .int x4)] [] h (PI r)) {a0 : Nat} {x1 : Int32} {x2 : Int32} {x3 : Int32} {x4 : Int32} {h : PH} {r : Int32 × PH} (hq : f_Reader_choice_93 fc fs k7 a0 x1 x2 x3 x4 h = some r) : E d 0 0 m_Reader_choice 93 [(0, .ref a0), (1, .int x1), (2, .int x2), (3, .int x3), (4, .int x4)] [] h (PI r) := by
  unfold f_Reader_choice_93 at hq
  obtain ⟨d, rfl⟩ : ∃ e, d = e + 1 := ⟨d - 1, by omega⟩
  refine E_aln 0 d_Reader_choice_93 rfl rfl ?_
  obtain ⟨q2, eq2, hq⟩ := bd hq
  obtain ⟨h1, eh1, hq⟩ := bd hq
  refine E_cV0V d_Reader_choice_94 ck_Reader_106 rfl rfl eq2 (Nat.le_of_ble_eq_true rfl) (Nat.le_of_ble_eq_true rfl) (t_Reader_advance (by omega) eh1) ?_
  refine E_inc (v := 1) (ls' := [(4, .int (x4 + 1)), (0, .ref a0), (1, .int x1), (2, .int x2), (3, .int x3)]) 4 d_Reader_choice_97 rfl (Nat.le_of_ble_eq_true rfl) (by decide) rfl ?_
  refine E_goto (tgt := 7) d_Reader_choice_100 (by decide) ?_
  exact E_sub (ks := [1, 2, 3, 4, 0]) rfl <| hk7 _ _ _ _ _ _ _ hq
def f_Reader_choice_86 (fc fs : Nat → Int32 → PH → Option (Int32 × PH)) (k7 : Nat → Int32 → Int32 → Int32 → Int32 → PH → Option (Int32 × PH)) (a0 : Nat) (x1 : Int32) (x2 : Int32) (x4 : Int32) (s0 : Int32) (h : PH) : Option (Int32 × PH) :=
  if s0 = 0 then
    rtZ 1 h
  else
    f_Reader_choice_93 fc fs k7 a0 x1 x2 s0 x4 h
theorem t_Reader_choice_86 {d : Nat} (hd : 4 ≤ d) {fc fs : Nat → Int32 → PH → Option (Int32 × PH)} (hfc : RecH fc m_Reader_choice d) (hfs : RecH fs m_Reader_single d) {k7 : Nat → Int32 → Int32 → Int32 → Int32 → PH → Option (Int32 × PH)} (hk7 : ∀ (a0 : Nat) (x1 : Int32) (x2 : Int32) (x3 : Int32) (x4 : Int32) (h : PH) (r : Int32 × PH), k7 a0 x1 x2 x3 x4 h = some r → E d 0 0 m_Reader_choice 7 [(0, .ref a0), (1, .int x1), (2, .int x2), (3, .int x3), (4, .int x4)] [] h (PI r)) {a0 : Nat} {x1 : Int32} {x2 : Int32} {x4 : Int32} {s0 : Int32} {h : PH} {r : Int32 × PH} (hq : f_Reader_choice_86 fc fs k7 a0 x1 x2 x4 s0 h = some r) : E d 0 0 m_Reader_choice 86 [(0, .ref a0), (1, .int x1), (2, .int x2), (4, .int x4)] [.int s0] h (PI r) := by
  unfold f_Reader_choice_86 at hq
  obtain ⟨d, rfl⟩ : ∃ e, d = e + 1 := ⟨d - 1, by omega⟩
  refine E_isn (ls' := [(3, .int s0), (0, .ref a0), (1, .int x1), (2, .int x2), (4, .int x4)]) d_Reader_choice_86 (Nat.le_of_ble_eq_true rfl) rfl ?_
  refine E_iln 0 d_Reader_choice_87 rfl rfl ?_
  refine E_zne (tgt := 93) d_Reader_choice_88 (by decide) (fun c => ?_) (fun c => ?_)
  · rw [if_neg c] at hq
    exact E_sub (ks := [1, 2, 3, 0, 4]) rfl <| t_Reader_choice_93 (by omega) hfc hfs hk7 hq
  · rw [if_pos c] at hq
    refine E_ic (v := 1) d_Reader_choice_91 (by decide) ?_
    exact E_rZ d_Reader_choice_92 rfl hq
def f_Reader_choice_71 (fc fs : Nat → Int32 → PH → Option (Int32 × PH)) (k7 : Nat → Int32 → Int32 → Int32 → Int32 → PH → Option (Int32 × PH)) (a0 : Nat) (x1 : Int32) (x2 : Int32) (x4 : Int32) (h : PH) : Option (Int32 × PH) :=
  (ldI h 4 a0 9).bind fun v1 =>
  if v1 = 20020 then
    f_Reader_choice_86 fc fs k7 a0 x1 x2 x4 1 h
  else
    f_Reader_choice_86 fc fs k7 a0 x1 x2 x4 0 h
theorem t_Reader_choice_71 {d : Nat} (hd : 4 ≤ d) {fc fs : Nat → Int32 → PH → Option (Int32 × PH)} (hfc : RecH fc m_Reader_choice d) (hfs : RecH fs m_Reader_single d) {k7 : Nat → Int32 → Int32 → Int32 → Int32 → PH → Option (Int32 × PH)} (hk7 : ∀ (a0 : Nat) (x1 : Int32) (x2 : Int32) (x3 : Int32) (x4 : Int32) (h : PH) (r : Int32 × PH), k7 a0 x1 x2 x3 x4 h = some r → E d 0 0 m_Reader_choice 7 [(0, .ref a0), (1, .int x1), (2, .int x2), (3, .int x3), (4, .int x4)] [] h (PI r)) {a0 : Nat} {x1 : Int32} {x2 : Int32} {x4 : Int32} {h : PH} {r : Int32 × PH} (hq : f_Reader_choice_71 fc fs k7 a0 x1 x2 x4 h = some r) : E d 0 0 m_Reader_choice 71 [(0, .ref a0), (1, .int x1), (2, .int x2), (4, .int x4)] [] h (PI r) := by
  unfold f_Reader_choice_71 at hq
  obtain ⟨d, rfl⟩ : ∃ e, d = e + 1 := ⟨d - 1, by omega⟩
  refine E_aln 0 d_Reader_choice_71 rfl rfl ?_
  obtain ⟨v1, ev1, hq⟩ := bd hq
  refine E_gI d_Reader_choice_72 lk_Reader_50 rfl ev1 ?_
  refine E_si (v := 20020) d_Reader_choice_75 (by decide) ?_
  refine E_jne (tgt := 85) d_Reader_choice_78 (by decide) (fun c => ?_) (fun c => ?_)
  · rw [if_neg c] at hq
    refine E_ic (v := 0) d_Reader_choice_85 (by decide) ?_
    exact t_Reader_choice_86 (by omega) hfc hfs hk7 hq
  · rw [if_pos c] at hq
    refine E_ic (v := 1) d_Reader_choice_81 (by decide) ?_
    refine E_goto (tgt := 86) d_Reader_choice_82 (by decide) ?_
    exact t_Reader_choice_86 (by omega) hfc hfs hk7 hq
def f_Reader_choice_53 (fc fs : Nat → Int32 → PH → Option (Int32 × PH)) (k7 : Nat → Int32 → Int32 → Int32 → Int32 → PH → Option (Int32 × PH)) (a0 : Nat) (x1 : Int32) (x3 : Int32) (x4 : Int32) (s0 : Int32) (h : PH) : Option (Int32 × PH) :=
  if s0 = 0 then
    if x3 = 0 then
      f_Reader_choice_71 fc fs k7 a0 x1 s0 x4 h
    else
      (ldR h 4 a0 4).bind fun v1 =>
      (isO h 2 v1).bind fun _ =>
      (f_Law_write v1 (-19) h).bind fun h2 =>
      f_Reader_choice_71 fc fs k7 a0 x1 s0 x4 h2
  else
    f_Reader_choice_93 fc fs k7 a0 x1 s0 x3 x4 h
theorem t_Reader_choice_53 {d : Nat} (hd : 4 ≤ d) {fc fs : Nat → Int32 → PH → Option (Int32 × PH)} (hfc : RecH fc m_Reader_choice d) (hfs : RecH fs m_Reader_single d) {k7 : Nat → Int32 → Int32 → Int32 → Int32 → PH → Option (Int32 × PH)} (hk7 : ∀ (a0 : Nat) (x1 : Int32) (x2 : Int32) (x3 : Int32) (x4 : Int32) (h : PH) (r : Int32 × PH), k7 a0 x1 x2 x3 x4 h = some r → E d 0 0 m_Reader_choice 7 [(0, .ref a0), (1, .int x1), (2, .int x2), (3, .int x3), (4, .int x4)] [] h (PI r)) {a0 : Nat} {x1 : Int32} {x3 : Int32} {x4 : Int32} {s0 : Int32} {h : PH} {r : Int32 × PH} (hq : f_Reader_choice_53 fc fs k7 a0 x1 x3 x4 s0 h = some r) : E d 0 0 m_Reader_choice 53 [(0, .ref a0), (1, .int x1), (3, .int x3), (4, .int x4)] [.int s0] h (PI r) := by
  unfold f_Reader_choice_53 at hq
  obtain ⟨d, rfl⟩ : ∃ e, d = e + 1 := ⟨d - 1, by omega⟩
  refine E_isn (ls' := [(2, .int s0), (0, .ref a0), (1, .int x1), (3, .int x3), (4, .int x4)]) d_Reader_choice_53 (Nat.le_of_ble_eq_true rfl) rfl ?_
  refine E_iln 0 d_Reader_choice_54 rfl rfl ?_
  refine E_zne (tgt := 93) d_Reader_choice_55 (by decide) (fun c => ?_) (fun c => ?_)
  · rw [if_neg c] at hq
    exact E_sub (ks := [1, 2, 0, 3, 4]) rfl <| t_Reader_choice_93 (by omega) hfc hfs hk7 hq
  · rw [if_pos c] at hq
    refine E_iln 3 d_Reader_choice_58 rfl rfl ?_
    refine E_zeq (tgt := 71) d_Reader_choice_59 (by decide) (fun c => ?_) (fun c => ?_)
    · rw [if_pos c] at hq
      exact E_sub (ks := [1, 2, 0, 4]) rfl <| t_Reader_choice_71 (by omega) hfc hfs hk7 hq
    · rw [if_neg c] at hq
      refine E_aln 1 d_Reader_choice_62 rfl rfl ?_
      obtain ⟨v1, ev1, hq⟩ := bd hq
      refine E_gR d_Reader_choice_63 lk_Reader_28 rfl ev1 ?_
      refine E_bi (v := (-19)) d_Reader_choice_66 (by decide) ?_
      obtain ⟨q3, eq3, hq⟩ := bd hq
      obtain ⟨h2, eh2, hq⟩ := bd hq
      refine E_cV1V d_Reader_choice_68 ck_Reader_141 rfl rfl eq3 (Nat.le_of_ble_eq_true rfl) (Nat.le_of_ble_eq_true rfl) (t_Law_write (by omega) eh2) ?_
      exact E_sub (ks := [1, 2, 0, 4]) rfl <| t_Reader_choice_71 (by omega) hfc hfs hk7 hq
def f_Reader_choice_38 (fc fs : Nat → Int32 → PH → Option (Int32 × PH)) (k7 : Nat → Int32 → Int32 → Int32 → Int32 → PH → Option (Int32 × PH)) (a0 : Nat) (x1 : Int32) (x3 : Int32) (x4 : Int32) (h : PH) : Option (Int32 × PH) :=
  (ldI h 4 a0 9).bind fun v1 =>
  if v1 = 20021 then
    f_Reader_choice_53 fc fs k7 a0 x1 x3 x4 1 h
  else
    f_Reader_choice_53 fc fs k7 a0 x1 x3 x4 0 h
theorem t_Reader_choice_38 {d : Nat} (hd : 4 ≤ d) {fc fs : Nat → Int32 → PH → Option (Int32 × PH)} (hfc : RecH fc m_Reader_choice d) (hfs : RecH fs m_Reader_single d) {k7 : Nat → Int32 → Int32 → Int32 → Int32 → PH → Option (Int32 × PH)} (hk7 : ∀ (a0 : Nat) (x1 : Int32) (x2 : Int32) (x3 : Int32) (x4 : Int32) (h : PH) (r : Int32 × PH), k7 a0 x1 x2 x3 x4 h = some r → E d 0 0 m_Reader_choice 7 [(0, .ref a0), (1, .int x1), (2, .int x2), (3, .int x3), (4, .int x4)] [] h (PI r)) {a0 : Nat} {x1 : Int32} {x3 : Int32} {x4 : Int32} {h : PH} {r : Int32 × PH} (hq : f_Reader_choice_38 fc fs k7 a0 x1 x3 x4 h = some r) : E d 0 0 m_Reader_choice 38 [(0, .ref a0), (1, .int x1), (3, .int x3), (4, .int x4)] [] h (PI r) := by
  unfold f_Reader_choice_38 at hq
  obtain ⟨d, rfl⟩ : ∃ e, d = e + 1 := ⟨d - 1, by omega⟩
  refine E_aln 0 d_Reader_choice_38 rfl rfl ?_
  obtain ⟨v1, ev1, hq⟩ := bd hq
  refine E_gI d_Reader_choice_39 lk_Reader_50 rfl ev1 ?_
  refine E_si (v := 20021) d_Reader_choice_42 (by decide) ?_
  refine E_jne (tgt := 52) d_Reader_choice_45 (by decide) (fun c => ?_) (fun c => ?_)
  · rw [if_neg c] at hq
    refine E_ic (v := 0) d_Reader_choice_52 (by decide) ?_
    exact t_Reader_choice_53 (by omega) hfc hfs hk7 hq
  · rw [if_pos c] at hq
    refine E_ic (v := 1) d_Reader_choice_48 (by decide) ?_
    refine E_goto (tgt := 53) d_Reader_choice_49 (by decide) ?_
    exact t_Reader_choice_53 (by omega) hfc hfs hk7 hq
def f_Reader_choice_7 (fc fs : Nat → Int32 → PH → Option (Int32 × PH)) : Nat → Nat → Int32 → Int32 → Int32 → Int32 → PH → Option (Int32 × PH)
  | 0, _, _, _, _, _, _ => none
  | n + 1, a0, x1, x2, x3, x4, h =>
    if 400 < x4 then
      rtZ 0 h
    else
      (isO h 4 a0).bind fun _ =>
      (fs a0 x1 h).bind fun p1 =>
      if p1.1 = 0 then
        rtZ 0 p1.2
      else
        if x2 = 0 then
          f_Reader_choice_38 fc fs (fun a0 x1 x2 x3 x4 h => f_Reader_choice_7 fc fs n a0 x1 x2 x3 x4 h) a0 x1 x3 x4 p1.2
        else
          (ldR p1.2 4 a0 4).bind fun v3 =>
          (isO p1.2 2 v3).bind fun _ =>
          (f_Law_write v3 (-18) p1.2).bind fun h4 =>
          f_Reader_choice_38 fc fs (fun a0 x1 x2 x3 x4 h => f_Reader_choice_7 fc fs n a0 x1 x2 x3 x4 h) a0 x1 x3 x4 h4
theorem t_Reader_choice_7 {d : Nat} (hd : 4 ≤ d) {fc fs : Nat → Int32 → PH → Option (Int32 × PH)} (hfc : RecH fc m_Reader_choice d) (hfs : RecH fs m_Reader_single d) : ∀ (n : Nat) (a0 : Nat) (x1 : Int32) (x2 : Int32) (x3 : Int32) (x4 : Int32) (h : PH) (r : Int32 × PH), f_Reader_choice_7 fc fs n a0 x1 x2 x3 x4 h = some r → E d 0 0 m_Reader_choice 7 [(0, .ref a0), (1, .int x1), (2, .int x2), (3, .int x3), (4, .int x4)] [] h (PI r) := by
  intro n
  induction n with
  | zero => intro a0 x1 x2 x3 x4 h r hq; rw [f_Reader_choice_7] at hq; cases hq
  | succ n ih =>
    intro a0 x1 x2 x3 x4 h r hq
    rw [f_Reader_choice_7] at hq
    obtain ⟨d, rfl⟩ : ∃ e, d = e + 1 := ⟨d - 1, by omega⟩
    refine E_il 4 d_Reader_choice_7 rfl ?_
    refine E_si (v := 400) d_Reader_choice_9 (by decide) ?_
    refine E_jgt (tgt := 103) d_Reader_choice_12 (by decide) (fun c => ?_) (fun c => ?_)
    · rw [if_pos c] at hq
      refine E_ic (v := 0) d_Reader_choice_103 (by decide) ?_
      exact E_rZ d_Reader_choice_104 rfl hq
    · rw [if_neg c] at hq
      refine E_aln 0 d_Reader_choice_15 rfl rfl ?_
      refine E_iln 1 d_Reader_choice_16 rfl rfl ?_
      obtain ⟨q2, eq2, hq⟩ := bd hq
      obtain ⟨p1, ep1, hq⟩ := bd hq
      refine E_cV1I d_Reader_choice_17 ck_Reader_138 rfl rfl eq2 (Nat.le_of_ble_eq_true rfl) (Nat.le_of_ble_eq_true rfl) (hfs _ _ _ _ ep1 _ rfl) ?_
      refine E_zne (tgt := 25) d_Reader_choice_20 (by decide) (fun c => ?_) (fun c => ?_)
      · rw [if_neg c] at hq
        refine E_iln 2 d_Reader_choice_25 rfl rfl ?_
        refine E_zeq (tgt := 38) d_Reader_choice_26 (by decide) (fun c => ?_) (fun c => ?_)
        · rw [if_pos c] at hq
          exact E_sub (ks := [0, 1, 3, 4]) rfl <| t_Reader_choice_38 (by omega) hfc hfs ih hq
        · rw [if_neg c] at hq
          refine E_aln 0 d_Reader_choice_29 rfl rfl ?_
          obtain ⟨v3, ev3, hq⟩ := bd hq
          refine E_gR d_Reader_choice_30 lk_Reader_28 rfl ev3 ?_
          refine E_bi (v := (-18)) d_Reader_choice_33 (by decide) ?_
          obtain ⟨q5, eq5, hq⟩ := bd hq
          obtain ⟨h4, eh4, hq⟩ := bd hq
          refine E_cV1V d_Reader_choice_35 ck_Reader_141 rfl rfl eq5 (Nat.le_of_ble_eq_true rfl) (Nat.le_of_ble_eq_true rfl) (t_Law_write (by omega) eh4) ?_
          exact E_sub (ks := [0, 1, 3, 4]) rfl <| t_Reader_choice_38 (by omega) hfc hfs ih hq
      · rw [if_pos c] at hq
        refine E_ic (v := 0) d_Reader_choice_23 (by decide) ?_
        exact E_rZ d_Reader_choice_24 rfl hq
def f_Reader_choice (fc fs : Nat → Int32 → PH → Option (Int32 × PH)) (a0 : Nat) (x1 : Int32) (h : PH) : Option (Int32 × PH) :=
  f_Reader_choice_7 fc fs FU a0 x1 0 0 0 h
theorem t_Reader_choice {d : Nat} (hd : 4 ≤ d) {fc fs : Nat → Int32 → PH → Option (Int32 × PH)} (hfc : RecH fc m_Reader_choice d) (hfs : RecH fs m_Reader_single d) {a0 : Nat} {x1 : Int32} {h : PH} {r : Int32 × PH} (hq : f_Reader_choice fc fs a0 x1 h = some r) : E d 0 0 m_Reader_choice 0 [(0, .ref a0), (1, .int x1)] [] h (PI r) := by
  unfold f_Reader_choice at hq
  obtain ⟨d, rfl⟩ : ∃ e, d = e + 1 := ⟨d - 1, by omega⟩
  refine E_ic (v := 0) d_Reader_choice_0 (by decide) ?_
  refine E_isn (ls' := [(2, .int 0), (0, .ref a0), (1, .int x1)]) d_Reader_choice_1 (Nat.le_of_ble_eq_true rfl) rfl ?_
  refine E_ic (v := 0) d_Reader_choice_2 (by decide) ?_
  refine E_isn (ls' := [(3, .int 0), (2, .int 0), (0, .ref a0), (1, .int x1)]) d_Reader_choice_3 (Nat.le_of_ble_eq_true rfl) rfl ?_
  refine E_ic (v := 0) d_Reader_choice_4 (by decide) ?_
  refine E_is (ls' := [(4, .int 0), (3, .int 0), (2, .int 0), (0, .ref a0), (1, .int x1)]) d_Reader_choice_5 (Nat.le_of_ble_eq_true rfl) rfl ?_
  exact E_sub (ks := [3, 4, 2, 1, 0]) rfl <| t_Reader_choice_7 (by omega) hfc hfs _ _ _ _ _ _ _ _ hq
def f_Reader_cs : Nat → Nat → Nat → Int32 → PH → Option (Int32 × PH)
  | 0, _, _, _, _ => none
  | n + 1, 0, a, x, h => f_Reader_choice (fun a x h => f_Reader_cs n 0 a x h) (fun a x h => f_Reader_cs n 1 a x h) a x h
  | n + 1, _ + 1, a, x, h => f_Reader_single (fun a x h => f_Reader_cs n 0 a x h) (fun a x h => f_Reader_cs n 1 a x h) a x h
theorem t_Reader_cs : ∀ (n d : Nat), n + 5 ≤ d → (∀ (a0 : Nat) (x1 : Int32) (h : PH) (r : Int32 × PH), f_Reader_cs n 0 a0 x1 h = some r → E d 0 0 m_Reader_choice 0 [(0, .ref a0), (1, .int x1)] [] h (PI r)) ∧ (∀ (a0 : Nat) (x1 : Int32) (h : PH) (r : Int32 × PH), f_Reader_cs n 1 a0 x1 h = some r → E d 0 0 m_Reader_single 0 [(0, .ref a0), (1, .int x1)] [] h (PI r))
  | 0, d, hd => ⟨fun a x h r hq => (by rw [f_Reader_cs] at hq; cases hq), fun a x h r hq => (by rw [f_Reader_cs] at hq; cases hq)⟩
  | n + 1, d, hd => by
    have hfc : RecH (fun a x h => f_Reader_cs n 0 a x h) m_Reader_choice d := fun a x h r hq e he => (t_Reader_cs n e (by omega)).1 a x h r hq
    have hfs : RecH (fun a x h => f_Reader_cs n 1 a x h) m_Reader_single d := fun a x h r hq e he => (t_Reader_cs n e (by omega)).2 a x h r hq
    exact ⟨fun a x h r hq => (by rw [f_Reader_cs] at hq; exact t_Reader_choice (by omega) hfc hfs hq), fun a x h r hq => (by rw [f_Reader_cs] at hq; exact t_Reader_single (by omega) hfc hfs hq)⟩
def g_Reader_choice (a : Nat) (x : Int32) (h : PH) : Option (Int32 × PH) := f_Reader_cs 20 0 a x h
theorem tg_Reader_choice {d : Nat} (hd : 25 ≤ d) {a0 : Nat} {x1 : Int32} {h : PH} {r : Int32 × PH} (hq : g_Reader_choice a0 x1 h = some r) : E d 0 0 m_Reader_choice 0 [(0, .ref a0), (1, .int x1)] [] h (PI r) := (t_Reader_cs 20 d (by omega)).1 _ _ _ _ hq
def f_Row_put_80 (k31 : Nat → Int32 → Int32 → Int32 → Int32 → Int32 → Int32 → PH → Option (Int32 × PH)) (a0 : Nat) (x1 : Int32) (x2 : Int32) (x3 : Int32) (x4 : Int32) (x5 : Int32) (x6 : Int32) (s0 : Int32) (s1 : Int32) (s2 : Nat) (h : PH) : Option (Int32 × PH) :=
  (wrA h s2 s1 s0).bind fun h1 =>
  k31 a0 x1 x2 x3 x4 x5 (x6 + 1) h1
theorem t_Row_put_80 {d : Nat} (hd : 0 ≤ d) {k31 : Nat → Int32 → Int32 → Int32 → Int32 → Int32 → Int32 → PH → Option (Int32 × PH)} (hk31 : ∀ (a0 : Nat) (x1 : Int32) (x2 : Int32) (x3 : Int32) (x4 : Int32) (x5 : Int32) (x6 : Int32) (h : PH) (r : Int32 × PH), k31 a0 x1 x2 x3 x4 x5 x6 h = some r → E d 0 0 m_Row_put 31 [(0, .ref a0), (1, .int x1), (2, .int x2), (3, .int x3), (4, .int x4), (5, .int x5), (6, .int x6)] [] h (PI r)) {a0 : Nat} {x1 : Int32} {x2 : Int32} {x3 : Int32} {x4 : Int32} {x5 : Int32} {x6 : Int32} {s0 : Int32} {s1 : Int32} {s2 : Nat} {h : PH} {r : Int32 × PH} (hq : f_Row_put_80 k31 a0 x1 x2 x3 x4 x5 x6 s0 s1 s2 h = some r) : E d 0 0 m_Row_put 80 [(0, .ref a0), (1, .int x1), (2, .int x2), (3, .int x3), (4, .int x4), (5, .int x5), (6, .int x6)] [.int s0, .int s1, .ref s2] h (PI r) := by
  unfold f_Row_put_80 at hq
  obtain ⟨h1, eh1, hq⟩ := bd hq
  refine E_wa d_Row_put_80 eh1 ?_
  refine E_inc (v := 1) (ls' := [(6, .int (x6 + 1)), (0, .ref a0), (1, .int x1), (2, .int x2), (3, .int x3), (4, .int x4), (5, .int x5)]) 6 d_Row_put_81 rfl (Nat.le_of_ble_eq_true rfl) (by decide) rfl ?_
  refine E_goto (tgt := 31) d_Row_put_84 (by decide) ?_
  exact E_sub (ks := [1, 2, 3, 4, 5, 6, 0]) rfl <| hk31 _ _ _ _ _ _ _ _ _ hq
def f_Row_put_31 : Nat → Nat → Int32 → Int32 → Int32 → Int32 → Int32 → Int32 → PH → Option (Int32 × PH)
  | 0, _, _, _, _, _, _, _, _ => none
  | n + 1, a0, x1, x2, x3, x4, x5, x6, h =>
    (ldI h 6 a0 0).bind fun v1 =>
    if v1 ≤ x6 then
      (ldI h 6 a0 2).bind fun v2 =>
      (stI h 6 a0 2 (v2 + 1)).bind fun h3 =>
      (ldI h3 6 a0 2).bind fun v4 =>
      some (v4, h3)
    else
      (ldR h 6 a0 1).bind fun v5 =>
      if x6 = 0 then
        f_Row_put_80 (fun a0 x1 x2 x3 x4 x5 x6 h => f_Row_put_31 n a0 x1 x2 x3 x4 x5 x6 h) a0 x1 x2 x3 x4 x5 x6 x1 (x5 + x6) v5 h
      else
        if x6 = 1 then
          f_Row_put_80 (fun a0 x1 x2 x3 x4 x5 x6 h => f_Row_put_31 n a0 x1 x2 x3 x4 x5 x6 h) a0 x1 x2 x3 x4 x5 x6 x2 (x5 + x6) v5 h
        else
          if x6 = 2 then
            f_Row_put_80 (fun a0 x1 x2 x3 x4 x5 x6 h => f_Row_put_31 n a0 x1 x2 x3 x4 x5 x6 h) a0 x1 x2 x3 x4 x5 x6 x3 (x5 + x6) v5 h
          else
            f_Row_put_80 (fun a0 x1 x2 x3 x4 x5 x6 h => f_Row_put_31 n a0 x1 x2 x3 x4 x5 x6 h) a0 x1 x2 x3 x4 x5 x6 x4 (x5 + x6) v5 h
theorem t_Row_put_31 {d : Nat} (hd : 0 ≤ d) : ∀ (n : Nat) (a0 : Nat) (x1 : Int32) (x2 : Int32) (x3 : Int32) (x4 : Int32) (x5 : Int32) (x6 : Int32) (h : PH) (r : Int32 × PH), f_Row_put_31 n a0 x1 x2 x3 x4 x5 x6 h = some r → E d 0 0 m_Row_put 31 [(0, .ref a0), (1, .int x1), (2, .int x2), (3, .int x3), (4, .int x4), (5, .int x5), (6, .int x6)] [] h (PI r) := by
  intro n
  induction n with
  | zero => intro a0 x1 x2 x3 x4 x5 x6 h r hq; rw [f_Row_put_31] at hq; cases hq
  | succ n ih =>
    intro a0 x1 x2 x3 x4 x5 x6 h r hq
    rw [f_Row_put_31] at hq
    refine E_il 6 d_Row_put_31 rfl ?_
    refine E_aln 0 d_Row_put_33 rfl rfl ?_
    obtain ⟨v1, ev1, hq⟩ := bd hq
    refine E_gI d_Row_put_34 lk_Row_15 rfl ev1 ?_
    refine E_jge (tgt := 87) d_Row_put_37 (by decide) (fun c => ?_) (fun c => ?_)
    · rw [if_pos c] at hq
      refine E_aln 0 d_Row_put_87 rfl rfl ?_
      refine E_dupr d_Row_put_88 ?_
      obtain ⟨v2, ev2, hq⟩ := bd hq
      refine E_gI d_Row_put_89 lk_Row_9 rfl ev2 ?_
      refine E_ic (v := 1) d_Row_put_92 (by decide) ?_
      refine E_iadd d_Row_put_93 ?_
      obtain ⟨h3, eh3, hq⟩ := bd hq
      refine E_pI d_Row_put_94 lp_Row_m_9 rfl eh3 ?_
      refine E_aln 0 d_Row_put_97 rfl rfl ?_
      obtain ⟨v4, ev4, hq⟩ := bd hq
      refine E_gI d_Row_put_98 lk_Row_9 rfl ev4 ?_
      exact E_rI d_Row_put_101 rfl hq
    · rw [if_neg c] at hq
      refine E_aln 0 d_Row_put_40 rfl rfl ?_
      obtain ⟨v5, ev5, hq⟩ := bd hq
      refine E_gR d_Row_put_41 lk_Row_18 rfl ev5 ?_
      refine E_il 5 d_Row_put_44 rfl ?_
      refine E_il 6 d_Row_put_46 rfl ?_
      refine E_iadd d_Row_put_48 ?_
      refine E_il 6 d_Row_put_49 rfl ?_
      refine E_zne (tgt := 58) d_Row_put_51 (by decide) (fun c => ?_) (fun c => ?_)
      · rw [if_neg c] at hq
        refine E_il 6 d_Row_put_58 rfl ?_
        refine E_ic (v := 1) d_Row_put_60 (by decide) ?_
        refine E_jne (tgt := 68) d_Row_put_61 (by decide) (fun c => ?_) (fun c => ?_)
        · rw [if_neg c] at hq
          refine E_il 6 d_Row_put_68 rfl ?_
          refine E_ic (v := 2) d_Row_put_70 (by decide) ?_
          refine E_jne (tgt := 78) d_Row_put_71 (by decide) (fun c => ?_) (fun c => ?_)
          · rw [if_neg c] at hq
            refine E_il 4 d_Row_put_78 rfl ?_
            exact t_Row_put_80 (by omega) ih hq
          · rw [if_pos c] at hq
            refine E_iln 3 d_Row_put_74 rfl rfl ?_
            refine E_goto (tgt := 80) d_Row_put_75 (by decide) ?_
            exact t_Row_put_80 (by omega) ih hq
        · rw [if_pos c] at hq
          refine E_iln 2 d_Row_put_64 rfl rfl ?_
          refine E_goto (tgt := 80) d_Row_put_65 (by decide) ?_
          exact t_Row_put_80 (by omega) ih hq
      · rw [if_pos c] at hq
        refine E_iln 1 d_Row_put_54 rfl rfl ?_
        refine E_goto (tgt := 80) d_Row_put_55 (by decide) ?_
        exact t_Row_put_80 (by omega) ih hq
def f_Row_put (a0 : Nat) (x1 : Int32) (x2 : Int32) (x3 : Int32) (x4 : Int32) (h : PH) : Option (Int32 × PH) :=
  (ldI h 6 a0 2).bind fun v1 =>
  (ldI h 6 a0 0).bind fun v2 =>
  (ldI h 6 a0 0).bind fun v3 =>
  (ldR h 6 a0 1).bind fun v4 =>
  (lnA h v4).bind fun v5 =>
  if ((v1 * v2) + v3) ≤ v5 then
    f_Row_put_31 FU a0 x1 x2 x3 x4 (v1 * v2) 0 h
  else
    some ((-1), h)
theorem t_Row_put {d : Nat} (hd : 0 ≤ d) {a0 : Nat} {x1 : Int32} {x2 : Int32} {x3 : Int32} {x4 : Int32} {h : PH} {r : Int32 × PH} (hq : f_Row_put a0 x1 x2 x3 x4 h = some r) : E d 0 0 m_Row_put 0 [(0, .ref a0), (1, .int x1), (2, .int x2), (3, .int x3), (4, .int x4)] [] h (PI r) := by
  unfold f_Row_put at hq
  refine E_aln 0 d_Row_put_0 rfl rfl ?_
  obtain ⟨v1, ev1, hq⟩ := bd hq
  refine E_gI d_Row_put_1 lk_Row_9 rfl ev1 ?_
  refine E_aln 0 d_Row_put_4 rfl rfl ?_
  obtain ⟨v2, ev2, hq⟩ := bd hq
  refine E_gI d_Row_put_5 lk_Row_15 rfl ev2 ?_
  refine E_imul d_Row_put_8 ?_
  refine E_is (ls' := [(5, .int (v1 * v2)), (0, .ref a0), (1, .int x1), (2, .int x2), (3, .int x3), (4, .int x4)]) d_Row_put_9 (Nat.le_of_ble_eq_true rfl) rfl ?_
  refine E_il 0 d_Row_put_11 rfl ?_
  refine E_aln 1 d_Row_put_13 rfl rfl ?_
  obtain ⟨v3, ev3, hq⟩ := bd hq
  refine E_gI d_Row_put_14 lk_Row_15 rfl ev3 ?_
  refine E_iadd d_Row_put_17 ?_
  refine E_aln 1 d_Row_put_18 rfl rfl ?_
  obtain ⟨v4, ev4, hq⟩ := bd hq
  refine E_gR d_Row_put_19 lk_Row_18 rfl ev4 ?_
  obtain ⟨v5, ev5, hq⟩ := bd hq
  refine E_ln d_Row_put_22 ev5 ?_
  refine E_jle (tgt := 28) d_Row_put_23 (by decide) (fun c => ?_) (fun c => ?_)
  · rw [if_pos c] at hq
    refine E_ic (v := 0) d_Row_put_28 (by decide) ?_
    refine E_is (ls' := [(6, .int 0), (5, .int (v1 * v2)), (0, .ref a0), (1, .int x1), (2, .int x2), (3, .int x3), (4, .int x4)]) d_Row_put_29 (Nat.le_of_ble_eq_true rfl) rfl ?_
    exact E_sub (ks := [2, 3, 4, 5, 6, 1, 0]) rfl <| t_Row_put_31 (by omega) _ _ _ _ _ _ _ _ _ _ hq
  · rw [if_neg c] at hq
    refine E_ic (v := (-1)) d_Row_put_26 (by decide) ?_
    exact E_rI d_Row_put_27 rfl hq
def f_Reader_lawLine_18 (a0 : Nat) (h : PH) : Option (Int32 × PH) :=
  (isO h 4 a0).bind fun _ =>
  (f_Reader_fail a0 1 h).bind fun p1 =>
  rtZ p1.1 p1.2
theorem t_Reader_lawLine_18 {d : Nat} (hd : 27 ≤ d) {a0 : Nat} {h : PH} {r : Int32 × PH} (hq : f_Reader_lawLine_18 a0 h = some r) : E d 0 0 m_Reader_lawLine 18 [(0, .ref a0)] [] h (PI r) := by
  unfold f_Reader_lawLine_18 at hq
  obtain ⟨d, rfl⟩ : ∃ e, d = e + 1 := ⟨d - 1, by omega⟩
  refine E_aln 0 d_Reader_lawLine_18 rfl rfl ?_
  refine E_ic (v := 1) d_Reader_lawLine_19 (by decide) ?_
  obtain ⟨q2, eq2, hq⟩ := bd hq
  obtain ⟨p1, ep1, hq⟩ := bd hq
  refine E_cV1I d_Reader_lawLine_20 ck_Reader_103 rfl rfl eq2 (Nat.le_of_ble_eq_true rfl) (Nat.le_of_ble_eq_true rfl) (t_Reader_fail (by omega) ep1) ?_
  exact E_rZ d_Reader_lawLine_23 rfl hq
def f_Reader_lawLine_96 (a0 : Nat) (x1 : Int32) (x2 : Int32) (x3 : Int32) (h : PH) : Option (Int32 × PH) :=
  (ldR h 4 a0 4).bind fun v1 =>
  (ldR h 2 v1 0).bind fun v2 =>
  (ldR h 4 a0 4).bind fun v3 =>
  (ldI h 2 v3 2).bind fun v4 =>
  (isO h 6 v2).bind fun _ =>
  (f_Row_put v2 x1 x2 x3 v4 h).bind fun p5 =>
  (isO p5.2 4 a0).bind fun _ =>
  (f_Reader_pass a0 10059 p5.2).bind fun p7 =>
  rtZ p7.1 p7.2
theorem t_Reader_lawLine_96 {d : Nat} (hd : 27 ≤ d) {a0 : Nat} {x1 : Int32} {x2 : Int32} {x3 : Int32} {h : PH} {r : Int32 × PH} (hq : f_Reader_lawLine_96 a0 x1 x2 x3 h = some r) : E d 0 0 m_Reader_lawLine 96 [(0, .ref a0), (1, .int x1), (2, .int x2), (3, .int x3)] [] h (PI r) := by
  unfold f_Reader_lawLine_96 at hq
  obtain ⟨d, rfl⟩ : ∃ e, d = e + 1 := ⟨d - 1, by omega⟩
  refine E_aln 0 d_Reader_lawLine_96 rfl rfl ?_
  obtain ⟨v1, ev1, hq⟩ := bd hq
  refine E_gR d_Reader_lawLine_97 lk_Reader_28 rfl ev1 ?_
  obtain ⟨v2, ev2, hq⟩ := bd hq
  refine E_gR d_Reader_lawLine_100 lk_Reader_112 rfl ev2 ?_
  refine E_iln 1 d_Reader_lawLine_103 rfl rfl ?_
  refine E_iln 2 d_Reader_lawLine_104 rfl rfl ?_
  refine E_iln 3 d_Reader_lawLine_105 rfl rfl ?_
  refine E_aln 0 d_Reader_lawLine_106 rfl rfl ?_
  obtain ⟨v3, ev3, hq⟩ := bd hq
  refine E_gR d_Reader_lawLine_107 lk_Reader_28 rfl ev3 ?_
  obtain ⟨v4, ev4, hq⟩ := bd hq
  refine E_gI d_Reader_lawLine_110 lk_Reader_119 rfl ev4 ?_
  obtain ⟨q6, eq6, hq⟩ := bd hq
  obtain ⟨p5, ep5, hq⟩ := bd hq
  refine E_cV4I d_Reader_lawLine_113 ck_Reader_128 rfl rfl eq6 (Nat.le_of_ble_eq_true rfl) (Nat.le_of_ble_eq_true rfl) (t_Row_put (by omega) ep5) ?_
  refine E_popi d_Reader_lawLine_116 ?_
  refine E_aln 0 d_Reader_lawLine_117 rfl rfl ?_
  refine E_si (v := 10059) d_Reader_lawLine_118 (by decide) ?_
  obtain ⟨q8, eq8, hq⟩ := bd hq
  obtain ⟨p7, ep7, hq⟩ := bd hq
  refine E_cV1I d_Reader_lawLine_121 ck_Reader_132 rfl rfl eq8 (Nat.le_of_ble_eq_true rfl) (Nat.le_of_ble_eq_true rfl) (t_Reader_pass (by omega) ep7) ?_
  exact E_rZ d_Reader_lawLine_124 rfl hq
def f_Reader_lawLine (a0 : Nat) (h : PH) : Option (Int32 × PH) :=
  (ldI h 4 a0 9).bind fun v1 =>
  if (v1 - 20000) < 0 then
    f_Reader_lawLine_18 a0 h
  else
    if (v1 - 20000) ≤ 2 then
      (ldI h 4 a0 9).bind fun v2 =>
      (ldR h 4 a0 4).bind fun v3 =>
      (ldR h 2 v3 0).bind fun v4 =>
      (ldI h 6 v4 2).bind fun v5 =>
      (isO h 4 a0).bind fun _ =>
      (f_Reader_begin a0 v2 v5 h).bind fun p6 =>
      if p6.1 = 0 then
        rtZ 0 p6.2
      else
        (ldR p6.2 4 a0 4).bind fun v8 =>
        (ldI p6.2 2 v8 2).bind fun v9 =>
        (isO p6.2 4 a0).bind fun _ =>
        (f_Reader_sum a0  p6.2).bind fun p10 =>
        if p10.1 = 0 then
          rtZ 0 p10.2
        else
          (ldR p10.2 4 a0 4).bind fun v12 =>
          (ldI p10.2 2 v12 2).bind fun v13 =>
          (ldI p10.2 4 a0 9).bind fun v14 =>
          if v14 = 20019 then
            (isO p10.2 4 a0).bind fun _ =>
            (f_Reader_advance a0  p10.2).bind fun h15 =>
            (isO h15 4 a0).bind fun _ =>
            (g_Reader_choice a0 0 h15).bind fun p17 =>
            if p17.1 = 0 then
              rtZ 0 p17.2
            else
              f_Reader_lawLine_96 a0 (v1 - 20000) v9 v13 p17.2
          else
            f_Reader_lawLine_96 a0 (v1 - 20000) v9 v13 p10.2
    else
      f_Reader_lawLine_18 a0 h
theorem t_Reader_lawLine {d : Nat} (hd : 27 ≤ d) {a0 : Nat} {h : PH} {r : Int32 × PH} (hq : f_Reader_lawLine a0 h = some r) : E d 0 0 m_Reader_lawLine 0 [(0, .ref a0)] [] h (PI r) := by
  unfold f_Reader_lawLine at hq
  obtain ⟨d, rfl⟩ : ∃ e, d = e + 1 := ⟨d - 1, by omega⟩
  refine E_aln 0 d_Reader_lawLine_0 rfl rfl ?_
  obtain ⟨v1, ev1, hq⟩ := bd hq
  refine E_gI d_Reader_lawLine_1 lk_Reader_50 rfl ev1 ?_
  refine E_si (v := 20000) d_Reader_lawLine_4 (by decide) ?_
  refine E_isub d_Reader_lawLine_7 ?_
  refine E_isn (ls' := [(1, .int (v1 - 20000)), (0, .ref a0)]) d_Reader_lawLine_8 (Nat.le_of_ble_eq_true rfl) rfl ?_
  refine E_iln 0 d_Reader_lawLine_9 rfl rfl ?_
  refine E_zlt (tgt := 18) d_Reader_lawLine_10 (by decide) (fun c => ?_) (fun c => ?_)
  · rw [if_pos c] at hq
    exact E_sub (ks := [1]) rfl <| t_Reader_lawLine_18 (by omega) hq
  · rw [if_neg c] at hq
    refine E_iln 0 d_Reader_lawLine_13 rfl rfl ?_
    refine E_ic (v := 2) d_Reader_lawLine_14 (by decide) ?_
    refine E_jle (tgt := 24) d_Reader_lawLine_15 (by decide) (fun c => ?_) (fun c => ?_)
    · rw [if_pos c] at hq
      refine E_aln 1 d_Reader_lawLine_24 rfl rfl ?_
      refine E_aln 1 d_Reader_lawLine_25 rfl rfl ?_
      obtain ⟨v2, ev2, hq⟩ := bd hq
      refine E_gI d_Reader_lawLine_26 lk_Reader_50 rfl ev2 ?_
      refine E_aln 1 d_Reader_lawLine_29 rfl rfl ?_
      obtain ⟨v3, ev3, hq⟩ := bd hq
      refine E_gR d_Reader_lawLine_30 lk_Reader_28 rfl ev3 ?_
      obtain ⟨v4, ev4, hq⟩ := bd hq
      refine E_gR d_Reader_lawLine_33 lk_Reader_112 rfl ev4 ?_
      obtain ⟨v5, ev5, hq⟩ := bd hq
      refine E_gI d_Reader_lawLine_36 lk_Reader_113 rfl ev5 ?_
      obtain ⟨q7, eq7, hq⟩ := bd hq
      obtain ⟨p6, ep6, hq⟩ := bd hq
      refine E_cV2I d_Reader_lawLine_39 ck_Reader_116 rfl rfl eq7 (Nat.le_of_ble_eq_true rfl) (Nat.le_of_ble_eq_true rfl) (t_Reader_begin (by omega) ep6) ?_
      refine E_zne (tgt := 47) d_Reader_lawLine_42 (by decide) (fun c => ?_) (fun c => ?_)
      · rw [if_neg c] at hq
        refine E_aln 1 d_Reader_lawLine_47 rfl rfl ?_
        obtain ⟨v8, ev8, hq⟩ := bd hq
        refine E_gR d_Reader_lawLine_48 lk_Reader_28 rfl ev8 ?_
        obtain ⟨v9, ev9, hq⟩ := bd hq
        refine E_gI d_Reader_lawLine_51 lk_Reader_119 rfl ev9 ?_
        refine E_isn (ls' := [(2, .int v9), (1, .int (v1 - 20000)), (0, .ref a0)]) d_Reader_lawLine_54 (Nat.le_of_ble_eq_true rfl) rfl ?_
        refine E_aln 2 d_Reader_lawLine_55 rfl rfl ?_
        obtain ⟨q11, eq11, hq⟩ := bd hq
        obtain ⟨p10, ep10, hq⟩ := bd hq
        refine E_cV0I d_Reader_lawLine_56 ck_Reader_122 rfl rfl eq11 (Nat.le_of_ble_eq_true rfl) (Nat.le_of_ble_eq_true rfl) (t_Reader_sum (by omega) ep10) ?_
        refine E_zne (tgt := 64) d_Reader_lawLine_59 (by decide) (fun c => ?_) (fun c => ?_)
        · rw [if_neg c] at hq
          refine E_aln 2 d_Reader_lawLine_64 rfl rfl ?_
          obtain ⟨v12, ev12, hq⟩ := bd hq
          refine E_gR d_Reader_lawLine_65 lk_Reader_28 rfl ev12 ?_
          obtain ⟨v13, ev13, hq⟩ := bd hq
          refine E_gI d_Reader_lawLine_68 lk_Reader_119 rfl ev13 ?_
          refine E_isn (ls' := [(3, .int v13), (2, .int v9), (1, .int (v1 - 20000)), (0, .ref a0)]) d_Reader_lawLine_71 (Nat.le_of_ble_eq_true rfl) rfl ?_
          refine E_aln 3 d_Reader_lawLine_72 rfl rfl ?_
          obtain ⟨v14, ev14, hq⟩ := bd hq
          refine E_gI d_Reader_lawLine_73 lk_Reader_50 rfl ev14 ?_
          refine E_si (v := 20019) d_Reader_lawLine_76 (by decide) ?_
          refine E_jne (tgt := 96) d_Reader_lawLine_79 (by decide) (fun c => ?_) (fun c => ?_)
          · rw [if_neg c] at hq
            exact E_sub (ks := [3, 2, 1, 0]) rfl <| t_Reader_lawLine_96 (by omega) hq
          · rw [if_pos c] at hq
            refine E_aln 3 d_Reader_lawLine_82 rfl rfl ?_
            obtain ⟨q16, eq16, hq⟩ := bd hq
            obtain ⟨h15, eh15, hq⟩ := bd hq
            refine E_cV0V d_Reader_lawLine_83 ck_Reader_106 rfl rfl eq16 (Nat.le_of_ble_eq_true rfl) (Nat.le_of_ble_eq_true rfl) (t_Reader_advance (by omega) eh15) ?_
            refine E_aln 3 d_Reader_lawLine_86 rfl rfl ?_
            refine E_ic (v := 0) d_Reader_lawLine_87 (by decide) ?_
            obtain ⟨q18, eq18, hq⟩ := bd hq
            obtain ⟨p17, ep17, hq⟩ := bd hq
            refine E_cV1I d_Reader_lawLine_88 ck_Reader_125 rfl rfl eq18 (Nat.le_of_ble_eq_true rfl) (Nat.le_of_ble_eq_true rfl) (tg_Reader_choice (by omega) ep17) ?_
            refine E_zne (tgt := 96) d_Reader_lawLine_91 (by decide) (fun c => ?_) (fun c => ?_)
            · rw [if_neg c] at hq
              exact E_sub (ks := [3, 2, 1, 0]) rfl <| t_Reader_lawLine_96 (by omega) hq
            · rw [if_pos c] at hq
              refine E_ic (v := 0) d_Reader_lawLine_94 (by decide) ?_
              exact E_rZ d_Reader_lawLine_95 rfl hq
        · rw [if_pos c] at hq
          refine E_ic (v := 0) d_Reader_lawLine_62 (by decide) ?_
          exact E_rZ d_Reader_lawLine_63 rfl hq
      · rw [if_pos c] at hq
        refine E_ic (v := 0) d_Reader_lawLine_45 (by decide) ?_
        exact E_rZ d_Reader_lawLine_46 rfl hq
    · rw [if_neg c] at hq
      exact E_sub (ks := [1]) rfl <| t_Reader_lawLine_18 (by omega) hq
def f_Reader_passNumber_29 (a0 : Nat) (h : PH) : Option (Int32 × PH) :=
  (isO h 4 a0).bind fun _ =>
  (f_Reader_fail a0 2 h).bind fun p1 =>
  rtZ p1.1 p1.2
theorem t_Reader_passNumber_29 {d : Nat} (hd : 1 ≤ d) {a0 : Nat} {h : PH} {r : Int32 × PH} (hq : f_Reader_passNumber_29 a0 h = some r) : E d 0 0 m_Reader_passNumber 29 [(0, .ref a0)] [] h (PI r) := by
  unfold f_Reader_passNumber_29 at hq
  obtain ⟨d, rfl⟩ : ∃ e, d = e + 1 := ⟨d - 1, by omega⟩
  refine E_aln 0 d_Reader_passNumber_29 rfl rfl ?_
  refine E_ic (v := 2) d_Reader_passNumber_30 (by decide) ?_
  obtain ⟨q2, eq2, hq⟩ := bd hq
  obtain ⟨p1, ep1, hq⟩ := bd hq
  refine E_cV1I d_Reader_passNumber_31 ck_Reader_103 rfl rfl eq2 (Nat.le_of_ble_eq_true rfl) (Nat.le_of_ble_eq_true rfl) (t_Reader_fail (by omega) ep1) ?_
  exact E_rZ d_Reader_passNumber_34 rfl hq
def f_Reader_passNumber (a0 : Nat) (x1 : Int32) (x2 : Int32) (h : PH) : Option (Int32 × PH) :=
  (isO h 4 a0).bind fun _ =>
  (f_Reader_isNumber a0  h).bind fun p1 =>
  if p1.1 = 0 then
    (isO p1.2 4 a0).bind fun _ =>
    (f_Reader_fail a0 1 p1.2).bind fun p9 =>
    rtZ p9.1 p9.2
  else
    (ldI p1.2 4 a0 9).bind fun v3 =>
    if x1 ≤ v3 then
      f_Reader_passNumber_29 a0 p1.2
    else
      (ldI p1.2 4 a0 9).bind fun v4 =>
      if v4 = x2 then
        f_Reader_passNumber_29 a0 p1.2
      else
        (ldI p1.2 4 a0 9).bind fun v5 =>
        (stI p1.2 4 a0 10 v5).bind fun h6 =>
        (isO h6 4 a0).bind fun _ =>
        (f_Reader_advance a0  h6).bind fun h7 =>
        rtZ 1 h7
theorem t_Reader_passNumber {d : Nat} (hd : 1 ≤ d) {a0 : Nat} {x1 : Int32} {x2 : Int32} {h : PH} {r : Int32 × PH} (hq : f_Reader_passNumber a0 x1 x2 h = some r) : E d 0 0 m_Reader_passNumber 0 [(0, .ref a0), (1, .int x1), (2, .int x2)] [] h (PI r) := by
  unfold f_Reader_passNumber at hq
  obtain ⟨d, rfl⟩ : ∃ e, d = e + 1 := ⟨d - 1, by omega⟩
  refine E_aln 0 d_Reader_passNumber_0 rfl rfl ?_
  obtain ⟨q2, eq2, hq⟩ := bd hq
  obtain ⟨p1, ep1, hq⟩ := bd hq
  refine E_cV0I d_Reader_passNumber_1 ck_Reader_109 rfl rfl eq2 (Nat.le_of_ble_eq_true rfl) (Nat.le_of_ble_eq_true rfl) (t_Reader_isNumber (by omega) ep1) ?_
  refine E_zne (tgt := 13) d_Reader_passNumber_4 (by decide) (fun c => ?_) (fun c => ?_)
  · rw [if_neg c] at hq
    refine E_aln 0 d_Reader_passNumber_13 rfl rfl ?_
    obtain ⟨v3, ev3, hq⟩ := bd hq
    refine E_gI d_Reader_passNumber_14 lk_Reader_50 rfl ev3 ?_
    refine E_iln 1 d_Reader_passNumber_17 rfl rfl ?_
    refine E_jge (tgt := 29) d_Reader_passNumber_18 (by decide) (fun c => ?_) (fun c => ?_)
    · rw [if_pos c] at hq
      exact E_sub (ks := [0]) rfl <| t_Reader_passNumber_29 (by omega) hq
    · rw [if_neg c] at hq
      refine E_aln 0 d_Reader_passNumber_21 rfl rfl ?_
      obtain ⟨v4, ev4, hq⟩ := bd hq
      refine E_gI d_Reader_passNumber_22 lk_Reader_50 rfl ev4 ?_
      refine E_iln 2 d_Reader_passNumber_25 rfl rfl ?_
      refine E_jne (tgt := 35) d_Reader_passNumber_26 (by decide) (fun c => ?_) (fun c => ?_)
      · rw [if_neg c] at hq
        refine E_aln 0 d_Reader_passNumber_35 rfl rfl ?_
        refine E_aln 0 d_Reader_passNumber_36 rfl rfl ?_
        obtain ⟨v5, ev5, hq⟩ := bd hq
        refine E_gI d_Reader_passNumber_37 lk_Reader_50 rfl ev5 ?_
        obtain ⟨h6, eh6, hq⟩ := bd hq
        refine E_pI d_Reader_passNumber_40 lp_Reader_m_53 rfl eh6 ?_
        refine E_aln 0 d_Reader_passNumber_43 rfl rfl ?_
        obtain ⟨q8, eq8, hq⟩ := bd hq
        obtain ⟨h7, eh7, hq⟩ := bd hq
        refine E_cV0V d_Reader_passNumber_44 ck_Reader_106 rfl rfl eq8 (Nat.le_of_ble_eq_true rfl) (Nat.le_of_ble_eq_true rfl) (t_Reader_advance (by omega) eh7) ?_
        refine E_ic (v := 1) d_Reader_passNumber_47 (by decide) ?_
        exact E_rZ d_Reader_passNumber_48 rfl hq
      · rw [if_pos c] at hq
        exact E_sub (ks := [0]) rfl <| t_Reader_passNumber_29 (by omega) hq
  · rw [if_pos c] at hq
    refine E_aln 0 d_Reader_passNumber_7 rfl rfl ?_
    refine E_ic (v := 1) d_Reader_passNumber_8 (by decide) ?_
    obtain ⟨q10, eq10, hq⟩ := bd hq
    obtain ⟨p9, ep9, hq⟩ := bd hq
    refine E_cV1I d_Reader_passNumber_9 ck_Reader_103 rfl rfl eq10 (Nat.le_of_ble_eq_true rfl) (Nat.le_of_ble_eq_true rfl) (t_Reader_fail (by omega) ep9) ?_
    exact E_rZ d_Reader_passNumber_12 rfl hq
def f_Reader_kinLine (a0 : Nat) (x1 : Int32) (h : PH) : Option (Int32 × PH) :=
  (ldR h 4 a0 5).bind fun v1 =>
  (ldI h 6 v1 2).bind fun v2 =>
  (isO h 4 a0).bind fun _ =>
  (f_Reader_begin a0 20023 v2 h).bind fun p3 =>
  if p3.1 = 0 then
    rtZ 0 p3.2
  else
    (isO p3.2 4 a0).bind fun _ =>
    (f_Reader_passNumber a0 x1 (-1) p3.2).bind fun p5 =>
    if p5.1 = 0 then
      rtZ 0 p5.2
    else
      (ldI p5.2 4 a0 10).bind fun v7 =>
      (isO p5.2 4 a0).bind fun _ =>
      (f_Reader_pass a0 20024 p5.2).bind fun p8 =>
      if p8.1 = 0 then
        rtZ 0 p8.2
      else
        (isO p8.2 4 a0).bind fun _ =>
        (f_Reader_passNumber a0 x1 v7 p8.2).bind fun p10 =>
        if p10.1 = 0 then
          rtZ 0 p10.2
        else
          (ldR p10.2 4 a0 5).bind fun v12 =>
          (ldI p10.2 4 a0 10).bind fun v13 =>
          (isO p10.2 6 v12).bind fun _ =>
          (f_Row_put v12 v7 v13 0 0 p10.2).bind fun p14 =>
          (isO p14.2 4 a0).bind fun _ =>
          (f_Reader_pass a0 10059 p14.2).bind fun p16 =>
          rtZ p16.1 p16.2
theorem t_Reader_kinLine {d : Nat} (hd : 2 ≤ d) {a0 : Nat} {x1 : Int32} {h : PH} {r : Int32 × PH} (hq : f_Reader_kinLine a0 x1 h = some r) : E d 0 0 m_Reader_kinLine 0 [(0, .ref a0), (1, .int x1)] [] h (PI r) := by
  unfold f_Reader_kinLine at hq
  obtain ⟨d, rfl⟩ : ∃ e, d = e + 1 := ⟨d - 1, by omega⟩
  refine E_aln 0 d_Reader_kinLine_0 rfl rfl ?_
  refine E_si (v := 20023) d_Reader_kinLine_1 (by decide) ?_
  refine E_aln 0 d_Reader_kinLine_4 rfl rfl ?_
  obtain ⟨v1, ev1, hq⟩ := bd hq
  refine E_gR d_Reader_kinLine_5 lk_Reader_37 rfl ev1 ?_
  obtain ⟨v2, ev2, hq⟩ := bd hq
  refine E_gI d_Reader_kinLine_8 lk_Reader_113 rfl ev2 ?_
  obtain ⟨q4, eq4, hq⟩ := bd hq
  obtain ⟨p3, ep3, hq⟩ := bd hq
  refine E_cV2I d_Reader_kinLine_11 ck_Reader_116 rfl rfl eq4 (Nat.le_of_ble_eq_true rfl) (Nat.le_of_ble_eq_true rfl) (t_Reader_begin (by omega) ep3) ?_
  refine E_zeq (tgt := 26) d_Reader_kinLine_14 (by decide) (fun c => ?_) (fun c => ?_)
  · rw [if_pos c] at hq
    refine E_ic (v := 0) d_Reader_kinLine_26 (by decide) ?_
    exact E_rZ d_Reader_kinLine_27 rfl hq
  · rw [if_neg c] at hq
    refine E_aln 0 d_Reader_kinLine_17 rfl rfl ?_
    refine E_iln 1 d_Reader_kinLine_18 rfl rfl ?_
    refine E_ic (v := (-1)) d_Reader_kinLine_19 (by decide) ?_
    obtain ⟨q6, eq6, hq⟩ := bd hq
    obtain ⟨p5, ep5, hq⟩ := bd hq
    refine E_cV2I d_Reader_kinLine_20 ck_Reader_135 rfl rfl eq6 (Nat.le_of_ble_eq_true rfl) (Nat.le_of_ble_eq_true rfl) (t_Reader_passNumber (by omega) ep5) ?_
    refine E_zne (tgt := 28) d_Reader_kinLine_23 (by decide) (fun c => ?_) (fun c => ?_)
    · rw [if_neg c] at hq
      refine E_aln 0 d_Reader_kinLine_28 rfl rfl ?_
      obtain ⟨v7, ev7, hq⟩ := bd hq
      refine E_gI d_Reader_kinLine_29 lk_Reader_53 rfl ev7 ?_
      refine E_isn (ls' := [(2, .int v7), (0, .ref a0), (1, .int x1)]) d_Reader_kinLine_32 (Nat.le_of_ble_eq_true rfl) rfl ?_
      refine E_aln 1 d_Reader_kinLine_33 rfl rfl ?_
      refine E_si (v := 20024) d_Reader_kinLine_34 (by decide) ?_
      obtain ⟨q9, eq9, hq⟩ := bd hq
      obtain ⟨p8, ep8, hq⟩ := bd hq
      refine E_cV1I d_Reader_kinLine_37 ck_Reader_132 rfl rfl eq9 (Nat.le_of_ble_eq_true rfl) (Nat.le_of_ble_eq_true rfl) (t_Reader_pass (by omega) ep8) ?_
      refine E_zeq (tgt := 52) d_Reader_kinLine_40 (by decide) (fun c => ?_) (fun c => ?_)
      · rw [if_pos c] at hq
        refine E_ic (v := 0) d_Reader_kinLine_52 (by decide) ?_
        exact E_rZ d_Reader_kinLine_53 rfl hq
      · rw [if_neg c] at hq
        refine E_aln 1 d_Reader_kinLine_43 rfl rfl ?_
        refine E_iln 2 d_Reader_kinLine_44 rfl rfl ?_
        refine E_iln 0 d_Reader_kinLine_45 rfl rfl ?_
        obtain ⟨q11, eq11, hq⟩ := bd hq
        obtain ⟨p10, ep10, hq⟩ := bd hq
        refine E_cV2I d_Reader_kinLine_46 ck_Reader_135 rfl rfl eq11 (Nat.le_of_ble_eq_true rfl) (Nat.le_of_ble_eq_true rfl) (t_Reader_passNumber (by omega) ep10) ?_
        refine E_zne (tgt := 54) d_Reader_kinLine_49 (by decide) (fun c => ?_) (fun c => ?_)
        · rw [if_neg c] at hq
          refine E_aln 1 d_Reader_kinLine_54 rfl rfl ?_
          obtain ⟨v12, ev12, hq⟩ := bd hq
          refine E_gR d_Reader_kinLine_55 lk_Reader_37 rfl ev12 ?_
          refine E_iln 0 d_Reader_kinLine_58 rfl rfl ?_
          refine E_aln 1 d_Reader_kinLine_59 rfl rfl ?_
          obtain ⟨v13, ev13, hq⟩ := bd hq
          refine E_gI d_Reader_kinLine_60 lk_Reader_53 rfl ev13 ?_
          refine E_ic (v := 0) d_Reader_kinLine_63 (by decide) ?_
          refine E_ic (v := 0) d_Reader_kinLine_64 (by decide) ?_
          obtain ⟨q15, eq15, hq⟩ := bd hq
          obtain ⟨p14, ep14, hq⟩ := bd hq
          refine E_cV4I d_Reader_kinLine_65 ck_Reader_128 rfl rfl eq15 (Nat.le_of_ble_eq_true rfl) (Nat.le_of_ble_eq_true rfl) (t_Row_put (by omega) ep14) ?_
          refine E_popi d_Reader_kinLine_68 ?_
          refine E_aln 1 d_Reader_kinLine_69 rfl rfl ?_
          refine E_si (v := 10059) d_Reader_kinLine_70 (by decide) ?_
          obtain ⟨q17, eq17, hq⟩ := bd hq
          obtain ⟨p16, ep16, hq⟩ := bd hq
          refine E_cV1I d_Reader_kinLine_73 ck_Reader_132 rfl rfl eq17 (Nat.le_of_ble_eq_true rfl) (Nat.le_of_ble_eq_true rfl) (t_Reader_pass (by omega) ep16) ?_
          exact E_rZ d_Reader_kinLine_76 rfl hq
        · rw [if_pos c] at hq
          refine E_ic (v := 0) d_Reader_kinLine_52 (by decide) ?_
          exact E_rZ d_Reader_kinLine_53 rfl hq
    · rw [if_pos c] at hq
      refine E_ic (v := 0) d_Reader_kinLine_26 (by decide) ?_
      exact E_rZ d_Reader_kinLine_27 rfl hq
def f_Reader_shiftLine_55 (a0 : Nat) (h : PH) : Option (Int32 × PH) :=
  (isO h 4 a0).bind fun _ =>
  (f_Reader_fail a0 1 h).bind fun p1 =>
  rtZ p1.1 p1.2
theorem t_Reader_shiftLine_55 {d : Nat} (hd : 2 ≤ d) {a0 : Nat} {h : PH} {r : Int32 × PH} (hq : f_Reader_shiftLine_55 a0 h = some r) : E d 0 0 m_Reader_shiftLine 55 [(0, .ref a0)] [] h (PI r) := by
  unfold f_Reader_shiftLine_55 at hq
  obtain ⟨d, rfl⟩ : ∃ e, d = e + 1 := ⟨d - 1, by omega⟩
  refine E_aln 0 d_Reader_shiftLine_55 rfl rfl ?_
  refine E_ic (v := 1) d_Reader_shiftLine_56 (by decide) ?_
  obtain ⟨q2, eq2, hq⟩ := bd hq
  obtain ⟨p1, ep1, hq⟩ := bd hq
  refine E_cV1I d_Reader_shiftLine_57 ck_Reader_103 rfl rfl eq2 (Nat.le_of_ble_eq_true rfl) (Nat.le_of_ble_eq_true rfl) (t_Reader_fail (by omega) ep1) ?_
  exact E_rZ d_Reader_shiftLine_60 rfl hq
def f_Reader_shiftLine_154 (a0 : Nat) (x3 : Int32) (x4 : Int32) (x6 : Int32) (h : PH) : Option (Int32 × PH) :=
  (ldR h 4 a0 5).bind fun v1 =>
  (ldI h 4 a0 10).bind fun v2 =>
  (isO h 6 v1).bind fun _ =>
  (f_Row_put v1 x3 x4 x6 v2 h).bind fun p3 =>
  (isO p3.2 4 a0).bind fun _ =>
  (f_Reader_pass a0 10059 p3.2).bind fun p5 =>
  rtZ p5.1 p5.2
theorem t_Reader_shiftLine_154 {d : Nat} (hd : 2 ≤ d) {a0 : Nat} {x3 : Int32} {x4 : Int32} {x6 : Int32} {h : PH} {r : Int32 × PH} (hq : f_Reader_shiftLine_154 a0 x3 x4 x6 h = some r) : E d 0 0 m_Reader_shiftLine 154 [(0, .ref a0), (3, .int x3), (4, .int x4), (6, .int x6)] [] h (PI r) := by
  unfold f_Reader_shiftLine_154 at hq
  obtain ⟨d, rfl⟩ : ∃ e, d = e + 1 := ⟨d - 1, by omega⟩
  refine E_aln 0 d_Reader_shiftLine_154 rfl rfl ?_
  obtain ⟨v1, ev1, hq⟩ := bd hq
  refine E_gR d_Reader_shiftLine_155 lk_Reader_37 rfl ev1 ?_
  refine E_iln 1 d_Reader_shiftLine_158 rfl rfl ?_
  refine E_il 2 d_Reader_shiftLine_159 rfl ?_
  refine E_il 3 d_Reader_shiftLine_161 rfl ?_
  refine E_aln 0 d_Reader_shiftLine_163 rfl rfl ?_
  obtain ⟨v2, ev2, hq⟩ := bd hq
  refine E_gI d_Reader_shiftLine_164 lk_Reader_53 rfl ev2 ?_
  obtain ⟨q4, eq4, hq⟩ := bd hq
  obtain ⟨p3, ep3, hq⟩ := bd hq
  refine E_cV4I d_Reader_shiftLine_167 ck_Reader_128 rfl rfl eq4 (Nat.le_of_ble_eq_true rfl) (Nat.le_of_ble_eq_true rfl) (t_Row_put (by omega) ep3) ?_
  refine E_popi d_Reader_shiftLine_170 ?_
  refine E_aln 0 d_Reader_shiftLine_171 rfl rfl ?_
  refine E_si (v := 10059) d_Reader_shiftLine_172 (by decide) ?_
  obtain ⟨q6, eq6, hq⟩ := bd hq
  obtain ⟨p5, ep5, hq⟩ := bd hq
  refine E_cV1I d_Reader_shiftLine_175 ck_Reader_132 rfl rfl eq6 (Nat.le_of_ble_eq_true rfl) (Nat.le_of_ble_eq_true rfl) (t_Reader_pass (by omega) ep5) ?_
  exact E_rZ d_Reader_shiftLine_178 rfl hq
def f_Reader_shiftLine_133 (a0 : Nat) (x3 : Int32) (x4 : Int32) (x6 : Int32) (h : PH) : Option (Int32 × PH) :=
  (isO h 4 a0).bind fun _ =>
  (f_Reader_pass a0 20026 h).bind fun p1 =>
  if p1.1 = 0 then
    rtZ 0 p1.2
  else
    (isO p1.2 4 a0).bind fun _ =>
    (f_Reader_passNumber a0 4 (-1) p1.2).bind fun p3 =>
    if p3.1 = 0 then
      rtZ 0 p3.2
    else
      f_Reader_shiftLine_154 a0 x3 x4 x6 p3.2
theorem t_Reader_shiftLine_133 {d : Nat} (hd : 2 ≤ d) {a0 : Nat} {x3 : Int32} {x4 : Int32} {x6 : Int32} {h : PH} {r : Int32 × PH} (hq : f_Reader_shiftLine_133 a0 x3 x4 x6 h = some r) : E d 0 0 m_Reader_shiftLine 133 [(0, .ref a0), (3, .int x3), (4, .int x4), (6, .int x6)] [] h (PI r) := by
  unfold f_Reader_shiftLine_133 at hq
  obtain ⟨d, rfl⟩ : ∃ e, d = e + 1 := ⟨d - 1, by omega⟩
  refine E_aln 0 d_Reader_shiftLine_133 rfl rfl ?_
  refine E_si (v := 20026) d_Reader_shiftLine_134 (by decide) ?_
  obtain ⟨q2, eq2, hq⟩ := bd hq
  obtain ⟨p1, ep1, hq⟩ := bd hq
  refine E_cV1I d_Reader_shiftLine_137 ck_Reader_132 rfl rfl eq2 (Nat.le_of_ble_eq_true rfl) (Nat.le_of_ble_eq_true rfl) (t_Reader_pass (by omega) ep1) ?_
  refine E_zeq (tgt := 152) d_Reader_shiftLine_140 (by decide) (fun c => ?_) (fun c => ?_)
  · rw [if_pos c] at hq
    refine E_ic (v := 0) d_Reader_shiftLine_152 (by decide) ?_
    exact E_rZ d_Reader_shiftLine_153 rfl hq
  · rw [if_neg c] at hq
    refine E_aln 0 d_Reader_shiftLine_143 rfl rfl ?_
    refine E_ic (v := 4) d_Reader_shiftLine_144 (by decide) ?_
    refine E_ic (v := (-1)) d_Reader_shiftLine_145 (by decide) ?_
    obtain ⟨q4, eq4, hq⟩ := bd hq
    obtain ⟨p3, ep3, hq⟩ := bd hq
    refine E_cV2I d_Reader_shiftLine_146 ck_Reader_135 rfl rfl eq4 (Nat.le_of_ble_eq_true rfl) (Nat.le_of_ble_eq_true rfl) (t_Reader_passNumber (by omega) ep3) ?_
    refine E_zne (tgt := 154) d_Reader_shiftLine_149 (by decide) (fun c => ?_) (fun c => ?_)
    · rw [if_neg c] at hq
      exact t_Reader_shiftLine_154 (by omega) hq
    · rw [if_pos c] at hq
      refine E_ic (v := 0) d_Reader_shiftLine_152 (by decide) ?_
      exact E_rZ d_Reader_shiftLine_153 rfl hq
def f_Reader_shiftLine_102 (a0 : Nat) (x3 : Int32) (x4 : Int32) (s0 : Int32) (h : PH) : Option (Int32 × PH) :=
  (isO h 4 a0).bind fun _ =>
  (f_Reader_passNumber a0 s0 (-1) h).bind fun p1 =>
  if p1.1 = 0 then
    rtZ 0 p1.2
  else
    (ldI p1.2 4 a0 10).bind fun v3 =>
    if x4 = 0 then
      f_Reader_shiftLine_133 a0 x3 x4 v3 p1.2
    else
      if x4 = 3 then
        f_Reader_shiftLine_133 a0 x3 x4 v3 p1.2
      else
        f_Reader_shiftLine_154 a0 x3 x4 v3 p1.2
theorem t_Reader_shiftLine_102 {d : Nat} (hd : 2 ≤ d) {a0 : Nat} {x3 : Int32} {x4 : Int32} {s0 : Int32} {h : PH} {r : Int32 × PH} (hq : f_Reader_shiftLine_102 a0 x3 x4 s0 h = some r) : E d 0 0 m_Reader_shiftLine 102 [(0, .ref a0), (3, .int x3), (4, .int x4)] [.int s0] h (PI r) := by
  unfold f_Reader_shiftLine_102 at hq
  obtain ⟨d, rfl⟩ : ∃ e, d = e + 1 := ⟨d - 1, by omega⟩
  refine E_is (ls' := [(5, .int s0), (0, .ref a0), (3, .int x3), (4, .int x4)]) d_Reader_shiftLine_102 (Nat.le_of_ble_eq_true rfl) rfl ?_
  refine E_aln 1 d_Reader_shiftLine_104 rfl rfl ?_
  refine E_il 0 d_Reader_shiftLine_105 rfl ?_
  refine E_ic (v := (-1)) d_Reader_shiftLine_107 (by decide) ?_
  obtain ⟨q2, eq2, hq⟩ := bd hq
  obtain ⟨p1, ep1, hq⟩ := bd hq
  refine E_cV2I d_Reader_shiftLine_108 ck_Reader_135 rfl rfl eq2 (Nat.le_of_ble_eq_true rfl) (Nat.le_of_ble_eq_true rfl) (t_Reader_passNumber (by omega) ep1) ?_
  refine E_zne (tgt := 116) d_Reader_shiftLine_111 (by decide) (fun c => ?_) (fun c => ?_)
  · rw [if_neg c] at hq
    refine E_aln 1 d_Reader_shiftLine_116 rfl rfl ?_
    obtain ⟨v3, ev3, hq⟩ := bd hq
    refine E_gI d_Reader_shiftLine_117 lk_Reader_53 rfl ev3 ?_
    refine E_is (ls' := [(6, .int v3), (5, .int s0), (0, .ref a0), (3, .int x3), (4, .int x4)]) d_Reader_shiftLine_120 (Nat.le_of_ble_eq_true rfl) rfl ?_
    refine E_il 4 d_Reader_shiftLine_122 rfl ?_
    refine E_zeq (tgt := 133) d_Reader_shiftLine_124 (by decide) (fun c => ?_) (fun c => ?_)
    · rw [if_pos c] at hq
      exact E_sub (ks := [2, 3, 4, 0]) rfl <| t_Reader_shiftLine_133 (by omega) hq
    · rw [if_neg c] at hq
      refine E_il 4 d_Reader_shiftLine_127 rfl ?_
      refine E_ic (v := 3) d_Reader_shiftLine_129 (by decide) ?_
      refine E_jne (tgt := 154) d_Reader_shiftLine_130 (by decide) (fun c => ?_) (fun c => ?_)
      · rw [if_neg c] at hq
        exact E_sub (ks := [2, 3, 4, 0]) rfl <| t_Reader_shiftLine_154 (by omega) hq
      · rw [if_pos c] at hq
        exact E_sub (ks := [2, 3, 4, 0]) rfl <| t_Reader_shiftLine_133 (by omega) hq
  · rw [if_pos c] at hq
    refine E_ic (v := 0) d_Reader_shiftLine_114 (by decide) ?_
    exact E_rZ d_Reader_shiftLine_115 rfl hq
def f_Reader_shiftLine_97 (a0 : Nat) (x3 : Int32) (x4 : Int32) (h : PH) : Option (Int32 × PH) :=
  f_Reader_shiftLine_102 a0 x3 x4 4 h
theorem t_Reader_shiftLine_97 {d : Nat} (hd : 2 ≤ d) {a0 : Nat} {x3 : Int32} {x4 : Int32} {h : PH} {r : Int32 × PH} (hq : f_Reader_shiftLine_97 a0 x3 x4 h = some r) : E d 0 0 m_Reader_shiftLine 97 [(0, .ref a0), (3, .int x3), (4, .int x4)] [] h (PI r) := by
  unfold f_Reader_shiftLine_97 at hq
  obtain ⟨d, rfl⟩ : ∃ e, d = e + 1 := ⟨d - 1, by omega⟩
  refine E_ic (v := 4) d_Reader_shiftLine_97 (by decide) ?_
  refine E_goto (tgt := 102) d_Reader_shiftLine_98 (by decide) ?_
  exact t_Reader_shiftLine_102 (by omega) hq
def f_Reader_shiftLine (a0 : Nat) (x1 : Int32) (x2 : Int32) (h : PH) : Option (Int32 × PH) :=
  (ldR h 4 a0 5).bind fun v1 =>
  (ldI h 6 v1 2).bind fun v2 =>
  (isO h 4 a0).bind fun _ =>
  (f_Reader_begin a0 20025 v2 h).bind fun p3 =>
  if p3.1 = 0 then
    rtZ 0 p3.2
  else
    (isO p3.2 4 a0).bind fun _ =>
    (f_Reader_passNumber a0 1000 (-1) p3.2).bind fun p5 =>
    if p5.1 = 0 then
      rtZ 0 p5.2
    else
      (ldI p5.2 4 a0 10).bind fun v7 =>
      (ldI p5.2 4 a0 9).bind fun v8 =>
      if v8 < 20013 then
        f_Reader_shiftLine_55 a0 p5.2
      else
        (ldI p5.2 4 a0 9).bind fun v9 =>
        if v9 ≤ 20018 then
          (ldI p5.2 4 a0 9).bind fun v10 =>
          (isO p5.2 4 a0).bind fun _ =>
          (f_Reader_advance a0  p5.2).bind fun h11 =>
          if (v10 - 20013) = 3 then
            f_Reader_shiftLine_102 a0 v7 (v10 - 20013) x2 h11
          else
            if (v10 - 20013) = 4 then
              f_Reader_shiftLine_97 a0 v7 (v10 - 20013) h11
            else
              if (v10 - 20013) = 5 then
                f_Reader_shiftLine_97 a0 v7 (v10 - 20013) h11
              else
                f_Reader_shiftLine_102 a0 v7 (v10 - 20013) x1 h11
        else
          f_Reader_shiftLine_55 a0 p5.2
theorem t_Reader_shiftLine {d : Nat} (hd : 2 ≤ d) {a0 : Nat} {x1 : Int32} {x2 : Int32} {h : PH} {r : Int32 × PH} (hq : f_Reader_shiftLine a0 x1 x2 h = some r) : E d 0 0 m_Reader_shiftLine 0 [(0, .ref a0), (1, .int x1), (2, .int x2)] [] h (PI r) := by
  unfold f_Reader_shiftLine at hq
  obtain ⟨d, rfl⟩ : ∃ e, d = e + 1 := ⟨d - 1, by omega⟩
  refine E_aln 0 d_Reader_shiftLine_0 rfl rfl ?_
  refine E_si (v := 20025) d_Reader_shiftLine_1 (by decide) ?_
  refine E_aln 0 d_Reader_shiftLine_4 rfl rfl ?_
  obtain ⟨v1, ev1, hq⟩ := bd hq
  refine E_gR d_Reader_shiftLine_5 lk_Reader_37 rfl ev1 ?_
  obtain ⟨v2, ev2, hq⟩ := bd hq
  refine E_gI d_Reader_shiftLine_8 lk_Reader_113 rfl ev2 ?_
  obtain ⟨q4, eq4, hq⟩ := bd hq
  obtain ⟨p3, ep3, hq⟩ := bd hq
  refine E_cV2I d_Reader_shiftLine_11 ck_Reader_116 rfl rfl eq4 (Nat.le_of_ble_eq_true rfl) (Nat.le_of_ble_eq_true rfl) (t_Reader_begin (by omega) ep3) ?_
  refine E_zeq (tgt := 28) d_Reader_shiftLine_14 (by decide) (fun c => ?_) (fun c => ?_)
  · rw [if_pos c] at hq
    refine E_ic (v := 0) d_Reader_shiftLine_28 (by decide) ?_
    exact E_rZ d_Reader_shiftLine_29 rfl hq
  · rw [if_neg c] at hq
    refine E_aln 0 d_Reader_shiftLine_17 rfl rfl ?_
    refine E_si (v := 1000) d_Reader_shiftLine_18 (by decide) ?_
    refine E_ic (v := (-1)) d_Reader_shiftLine_21 (by decide) ?_
    obtain ⟨q6, eq6, hq⟩ := bd hq
    obtain ⟨p5, ep5, hq⟩ := bd hq
    refine E_cV2I d_Reader_shiftLine_22 ck_Reader_135 rfl rfl eq6 (Nat.le_of_ble_eq_true rfl) (Nat.le_of_ble_eq_true rfl) (t_Reader_passNumber (by omega) ep5) ?_
    refine E_zne (tgt := 30) d_Reader_shiftLine_25 (by decide) (fun c => ?_) (fun c => ?_)
    · rw [if_neg c] at hq
      refine E_aln 0 d_Reader_shiftLine_30 rfl rfl ?_
      obtain ⟨v7, ev7, hq⟩ := bd hq
      refine E_gI d_Reader_shiftLine_31 lk_Reader_53 rfl ev7 ?_
      refine E_isn (ls' := [(3, .int v7), (0, .ref a0), (1, .int x1), (2, .int x2)]) d_Reader_shiftLine_34 (Nat.le_of_ble_eq_true rfl) rfl ?_
      refine E_aln 1 d_Reader_shiftLine_35 rfl rfl ?_
      obtain ⟨v8, ev8, hq⟩ := bd hq
      refine E_gI d_Reader_shiftLine_36 lk_Reader_50 rfl ev8 ?_
      refine E_si (v := 20013) d_Reader_shiftLine_39 (by decide) ?_
      refine E_jlt (tgt := 55) d_Reader_shiftLine_42 (by decide) (fun c => ?_) (fun c => ?_)
      · rw [if_pos c] at hq
        exact E_sub (ks := [1]) rfl <| t_Reader_shiftLine_55 (by omega) hq
      · rw [if_neg c] at hq
        refine E_aln 1 d_Reader_shiftLine_45 rfl rfl ?_
        obtain ⟨v9, ev9, hq⟩ := bd hq
        refine E_gI d_Reader_shiftLine_46 lk_Reader_50 rfl ev9 ?_
        refine E_si (v := 20018) d_Reader_shiftLine_49 (by decide) ?_
        refine E_jle (tgt := 61) d_Reader_shiftLine_52 (by decide) (fun c => ?_) (fun c => ?_)
        · rw [if_pos c] at hq
          refine E_aln 1 d_Reader_shiftLine_61 rfl rfl ?_
          obtain ⟨v10, ev10, hq⟩ := bd hq
          refine E_gI d_Reader_shiftLine_62 lk_Reader_50 rfl ev10 ?_
          refine E_si (v := 20013) d_Reader_shiftLine_65 (by decide) ?_
          refine E_isub d_Reader_shiftLine_68 ?_
          refine E_is (ls' := [(4, .int (v10 - 20013)), (3, .int v7), (0, .ref a0), (1, .int x1), (2, .int x2)]) d_Reader_shiftLine_69 (Nat.le_of_ble_eq_true rfl) rfl ?_
          refine E_aln 2 d_Reader_shiftLine_71 rfl rfl ?_
          obtain ⟨q12, eq12, hq⟩ := bd hq
          obtain ⟨h11, eh11, hq⟩ := bd hq
          refine E_cV0V d_Reader_shiftLine_72 ck_Reader_106 rfl rfl eq12 (Nat.le_of_ble_eq_true rfl) (Nat.le_of_ble_eq_true rfl) (t_Reader_advance (by omega) eh11) ?_
          refine E_il 0 d_Reader_shiftLine_75 rfl ?_
          refine E_ic (v := 3) d_Reader_shiftLine_77 (by decide) ?_
          refine E_jne (tgt := 85) d_Reader_shiftLine_78 (by decide) (fun c => ?_) (fun c => ?_)
          · rw [if_neg c] at hq
            refine E_il 0 d_Reader_shiftLine_85 rfl ?_
            refine E_ic (v := 4) d_Reader_shiftLine_87 (by decide) ?_
            refine E_jeq (tgt := 97) d_Reader_shiftLine_88 (by decide) (fun c => ?_) (fun c => ?_)
            · rw [if_pos c] at hq
              exact E_sub (ks := [2, 1, 0]) rfl <| t_Reader_shiftLine_97 (by omega) hq
            · rw [if_neg c] at hq
              refine E_il 0 d_Reader_shiftLine_91 rfl ?_
              refine E_ic (v := 5) d_Reader_shiftLine_93 (by decide) ?_
              refine E_jne (tgt := 101) d_Reader_shiftLine_94 (by decide) (fun c => ?_) (fun c => ?_)
              · rw [if_neg c] at hq
                refine E_iln 3 d_Reader_shiftLine_101 rfl rfl ?_
                exact E_sub (ks := [2, 1, 0]) rfl <| t_Reader_shiftLine_102 (by omega) hq
              · rw [if_pos c] at hq
                exact E_sub (ks := [2, 1, 0]) rfl <| t_Reader_shiftLine_97 (by omega) hq
          · rw [if_pos c] at hq
            refine E_iln 4 d_Reader_shiftLine_81 rfl rfl ?_
            refine E_goto (tgt := 102) d_Reader_shiftLine_82 (by decide) ?_
            exact E_sub (ks := [2, 1, 0]) rfl <| t_Reader_shiftLine_102 (by omega) hq
        · rw [if_neg c] at hq
          exact E_sub (ks := [1]) rfl <| t_Reader_shiftLine_55 (by omega) hq
    · rw [if_pos c] at hq
      refine E_ic (v := 0) d_Reader_shiftLine_28 (by decide) ?_
      exact E_rZ d_Reader_shiftLine_29 rfl hq
def f_Reader_roadLine (a0 : Nat) (h : PH) : Option (Int32 × PH) :=
  (ldR h 4 a0 5).bind fun v1 =>
  (ldI h 6 v1 2).bind fun v2 =>
  (isO h 4 a0).bind fun _ =>
  (f_Reader_begin a0 20027 v2 h).bind fun p3 =>
  if p3.1 = 0 then
    rtZ 0 p3.2
  else
    (isO p3.2 4 a0).bind fun _ =>
    (f_Reader_passNumber a0 10 (-1) p3.2).bind fun p5 =>
    if p5.1 = 0 then
      rtZ 0 p5.2
    else
      (ldI p5.2 4 a0 10).bind fun v7 =>
      (isO p5.2 4 a0).bind fun _ =>
      (f_Reader_passNumber a0 10 v7 p5.2).bind fun p8 =>
      if p8.1 = 0 then
        rtZ 0 p8.2
      else
        (ldI p8.2 4 a0 10).bind fun v10 =>
        (isO p8.2 4 a0).bind fun _ =>
        (f_Reader_pass a0 20028 p8.2).bind fun p11 =>
        if p11.1 = 0 then
          rtZ 0 p11.2
        else
          (isO p11.2 4 a0).bind fun _ =>
          (f_Reader_passNumber a0 100 (-1) p11.2).bind fun p13 =>
          if p13.1 = 0 then
            rtZ 0 p13.2
          else
            (ldI p13.2 4 a0 10).bind fun v15 =>
            (isO p13.2 4 a0).bind fun _ =>
            (f_Reader_pass a0 20005 p13.2).bind fun p16 =>
            if p16.1 = 0 then
              rtZ 0 p16.2
            else
              (isO p16.2 4 a0).bind fun _ =>
              (f_Reader_passNumber a0 100 (-1) p16.2).bind fun p18 =>
              if p18.1 = 0 then
                rtZ 0 p18.2
              else
                (ldR p18.2 4 a0 5).bind fun v20 =>
                (ldI p18.2 4 a0 10).bind fun v21 =>
                (isO p18.2 6 v20).bind fun _ =>
                (f_Row_put v20 v7 v10 v15 v21 p18.2).bind fun p22 =>
                (isO p22.2 4 a0).bind fun _ =>
                (f_Reader_pass a0 10059 p22.2).bind fun p24 =>
                rtZ p24.1 p24.2
theorem t_Reader_roadLine {d : Nat} (hd : 2 ≤ d) {a0 : Nat} {h : PH} {r : Int32 × PH} (hq : f_Reader_roadLine a0 h = some r) : E d 0 0 m_Reader_roadLine 0 [(0, .ref a0)] [] h (PI r) := by
  unfold f_Reader_roadLine at hq
  obtain ⟨d, rfl⟩ : ∃ e, d = e + 1 := ⟨d - 1, by omega⟩
  refine E_aln 0 d_Reader_roadLine_0 rfl rfl ?_
  refine E_si (v := 20027) d_Reader_roadLine_1 (by decide) ?_
  refine E_aln 0 d_Reader_roadLine_4 rfl rfl ?_
  obtain ⟨v1, ev1, hq⟩ := bd hq
  refine E_gR d_Reader_roadLine_5 lk_Reader_37 rfl ev1 ?_
  obtain ⟨v2, ev2, hq⟩ := bd hq
  refine E_gI d_Reader_roadLine_8 lk_Reader_113 rfl ev2 ?_
  obtain ⟨q4, eq4, hq⟩ := bd hq
  obtain ⟨p3, ep3, hq⟩ := bd hq
  refine E_cV2I d_Reader_roadLine_11 ck_Reader_116 rfl rfl eq4 (Nat.le_of_ble_eq_true rfl) (Nat.le_of_ble_eq_true rfl) (t_Reader_begin (by omega) ep3) ?_
  refine E_zeq (tgt := 27) d_Reader_roadLine_14 (by decide) (fun c => ?_) (fun c => ?_)
  · rw [if_pos c] at hq
    refine E_ic (v := 0) d_Reader_roadLine_27 (by decide) ?_
    exact E_rZ d_Reader_roadLine_28 rfl hq
  · rw [if_neg c] at hq
    refine E_aln 0 d_Reader_roadLine_17 rfl rfl ?_
    refine E_bi (v := 10) d_Reader_roadLine_18 (by decide) ?_
    refine E_ic (v := (-1)) d_Reader_roadLine_20 (by decide) ?_
    obtain ⟨q6, eq6, hq⟩ := bd hq
    obtain ⟨p5, ep5, hq⟩ := bd hq
    refine E_cV2I d_Reader_roadLine_21 ck_Reader_135 rfl rfl eq6 (Nat.le_of_ble_eq_true rfl) (Nat.le_of_ble_eq_true rfl) (t_Reader_passNumber (by omega) ep5) ?_
    refine E_zne (tgt := 29) d_Reader_roadLine_24 (by decide) (fun c => ?_) (fun c => ?_)
    · rw [if_neg c] at hq
      refine E_aln 0 d_Reader_roadLine_29 rfl rfl ?_
      obtain ⟨v7, ev7, hq⟩ := bd hq
      refine E_gI d_Reader_roadLine_30 lk_Reader_53 rfl ev7 ?_
      refine E_isn (ls' := [(1, .int v7), (0, .ref a0)]) d_Reader_roadLine_33 (Nat.le_of_ble_eq_true rfl) rfl ?_
      refine E_aln 1 d_Reader_roadLine_34 rfl rfl ?_
      refine E_bi (v := 10) d_Reader_roadLine_35 (by decide) ?_
      refine E_iln 0 d_Reader_roadLine_37 rfl rfl ?_
      obtain ⟨q9, eq9, hq⟩ := bd hq
      obtain ⟨p8, ep8, hq⟩ := bd hq
      refine E_cV2I d_Reader_roadLine_38 ck_Reader_135 rfl rfl eq9 (Nat.le_of_ble_eq_true rfl) (Nat.le_of_ble_eq_true rfl) (t_Reader_passNumber (by omega) ep8) ?_
      refine E_zne (tgt := 46) d_Reader_roadLine_41 (by decide) (fun c => ?_) (fun c => ?_)
      · rw [if_neg c] at hq
        refine E_aln 1 d_Reader_roadLine_46 rfl rfl ?_
        obtain ⟨v10, ev10, hq⟩ := bd hq
        refine E_gI d_Reader_roadLine_47 lk_Reader_53 rfl ev10 ?_
        refine E_isn (ls' := [(2, .int v10), (1, .int v7), (0, .ref a0)]) d_Reader_roadLine_50 (Nat.le_of_ble_eq_true rfl) rfl ?_
        refine E_aln 2 d_Reader_roadLine_51 rfl rfl ?_
        refine E_si (v := 20028) d_Reader_roadLine_52 (by decide) ?_
        obtain ⟨q12, eq12, hq⟩ := bd hq
        obtain ⟨p11, ep11, hq⟩ := bd hq
        refine E_cV1I d_Reader_roadLine_55 ck_Reader_132 rfl rfl eq12 (Nat.le_of_ble_eq_true rfl) (Nat.le_of_ble_eq_true rfl) (t_Reader_pass (by omega) ep11) ?_
        refine E_zeq (tgt := 71) d_Reader_roadLine_58 (by decide) (fun c => ?_) (fun c => ?_)
        · rw [if_pos c] at hq
          refine E_ic (v := 0) d_Reader_roadLine_71 (by decide) ?_
          exact E_rZ d_Reader_roadLine_72 rfl hq
        · rw [if_neg c] at hq
          refine E_aln 2 d_Reader_roadLine_61 rfl rfl ?_
          refine E_bi (v := 100) d_Reader_roadLine_62 (by decide) ?_
          refine E_ic (v := (-1)) d_Reader_roadLine_64 (by decide) ?_
          obtain ⟨q14, eq14, hq⟩ := bd hq
          obtain ⟨p13, ep13, hq⟩ := bd hq
          refine E_cV2I d_Reader_roadLine_65 ck_Reader_135 rfl rfl eq14 (Nat.le_of_ble_eq_true rfl) (Nat.le_of_ble_eq_true rfl) (t_Reader_passNumber (by omega) ep13) ?_
          refine E_zne (tgt := 73) d_Reader_roadLine_68 (by decide) (fun c => ?_) (fun c => ?_)
          · rw [if_neg c] at hq
            refine E_aln 2 d_Reader_roadLine_73 rfl rfl ?_
            obtain ⟨v15, ev15, hq⟩ := bd hq
            refine E_gI d_Reader_roadLine_74 lk_Reader_53 rfl ev15 ?_
            refine E_isn (ls' := [(3, .int v15), (2, .int v10), (1, .int v7), (0, .ref a0)]) d_Reader_roadLine_77 (Nat.le_of_ble_eq_true rfl) rfl ?_
            refine E_aln 3 d_Reader_roadLine_78 rfl rfl ?_
            refine E_si (v := 20005) d_Reader_roadLine_79 (by decide) ?_
            obtain ⟨q17, eq17, hq⟩ := bd hq
            obtain ⟨p16, ep16, hq⟩ := bd hq
            refine E_cV1I d_Reader_roadLine_82 ck_Reader_132 rfl rfl eq17 (Nat.le_of_ble_eq_true rfl) (Nat.le_of_ble_eq_true rfl) (t_Reader_pass (by omega) ep16) ?_
            refine E_zeq (tgt := 98) d_Reader_roadLine_85 (by decide) (fun c => ?_) (fun c => ?_)
            · rw [if_pos c] at hq
              refine E_ic (v := 0) d_Reader_roadLine_98 (by decide) ?_
              exact E_rZ d_Reader_roadLine_99 rfl hq
            · rw [if_neg c] at hq
              refine E_aln 3 d_Reader_roadLine_88 rfl rfl ?_
              refine E_bi (v := 100) d_Reader_roadLine_89 (by decide) ?_
              refine E_ic (v := (-1)) d_Reader_roadLine_91 (by decide) ?_
              obtain ⟨q19, eq19, hq⟩ := bd hq
              obtain ⟨p18, ep18, hq⟩ := bd hq
              refine E_cV2I d_Reader_roadLine_92 ck_Reader_135 rfl rfl eq19 (Nat.le_of_ble_eq_true rfl) (Nat.le_of_ble_eq_true rfl) (t_Reader_passNumber (by omega) ep18) ?_
              refine E_zne (tgt := 100) d_Reader_roadLine_95 (by decide) (fun c => ?_) (fun c => ?_)
              · rw [if_neg c] at hq
                refine E_aln 3 d_Reader_roadLine_100 rfl rfl ?_
                obtain ⟨v20, ev20, hq⟩ := bd hq
                refine E_gR d_Reader_roadLine_101 lk_Reader_37 rfl ev20 ?_
                refine E_iln 2 d_Reader_roadLine_104 rfl rfl ?_
                refine E_iln 1 d_Reader_roadLine_105 rfl rfl ?_
                refine E_iln 0 d_Reader_roadLine_106 rfl rfl ?_
                refine E_aln 3 d_Reader_roadLine_107 rfl rfl ?_
                obtain ⟨v21, ev21, hq⟩ := bd hq
                refine E_gI d_Reader_roadLine_108 lk_Reader_53 rfl ev21 ?_
                obtain ⟨q23, eq23, hq⟩ := bd hq
                obtain ⟨p22, ep22, hq⟩ := bd hq
                refine E_cV4I d_Reader_roadLine_111 ck_Reader_128 rfl rfl eq23 (Nat.le_of_ble_eq_true rfl) (Nat.le_of_ble_eq_true rfl) (t_Row_put (by omega) ep22) ?_
                refine E_popi d_Reader_roadLine_114 ?_
                refine E_aln 3 d_Reader_roadLine_115 rfl rfl ?_
                refine E_si (v := 10059) d_Reader_roadLine_116 (by decide) ?_
                obtain ⟨q25, eq25, hq⟩ := bd hq
                obtain ⟨p24, ep24, hq⟩ := bd hq
                refine E_cV1I d_Reader_roadLine_119 ck_Reader_132 rfl rfl eq25 (Nat.le_of_ble_eq_true rfl) (Nat.le_of_ble_eq_true rfl) (t_Reader_pass (by omega) ep24) ?_
                exact E_rZ d_Reader_roadLine_122 rfl hq
              · rw [if_pos c] at hq
                refine E_ic (v := 0) d_Reader_roadLine_98 (by decide) ?_
                exact E_rZ d_Reader_roadLine_99 rfl hq
          · rw [if_pos c] at hq
            refine E_ic (v := 0) d_Reader_roadLine_71 (by decide) ?_
            exact E_rZ d_Reader_roadLine_72 rfl hq
      · rw [if_pos c] at hq
        refine E_ic (v := 0) d_Reader_roadLine_44 (by decide) ?_
        exact E_rZ d_Reader_roadLine_45 rfl hq
    · rw [if_pos c] at hq
      refine E_ic (v := 0) d_Reader_roadLine_27 (by decide) ?_
      exact E_rZ d_Reader_roadLine_28 rfl hq
def f_Reader_readText_102 (k43 : Nat → Int32 → Int32 → Int32 → Int32 → PH → Option (Int32 × PH)) (a0 : Nat) (x1 : Int32) (x2 : Int32) (x3 : Int32) (x4 : Int32) (s0 : Int32) (h : PH) : Option (Int32 × PH) :=
  if s0 = 0 then
    rtZ 0 h
  else
    k43 a0 x1 x2 x3 (x4 + 1) h
theorem t_Reader_readText_102 {d : Nat} (hd : 28 ≤ d) {k43 : Nat → Int32 → Int32 → Int32 → Int32 → PH → Option (Int32 × PH)} (hk43 : ∀ (a0 : Nat) (x1 : Int32) (x2 : Int32) (x3 : Int32) (x4 : Int32) (h : PH) (r : Int32 × PH), k43 a0 x1 x2 x3 x4 h = some r → E d 0 0 m_Reader_readText 43 [(0, .ref a0), (1, .int x1), (2, .int x2), (3, .int x3), (4, .int x4)] [] h (PI r)) {a0 : Nat} {x1 : Int32} {x2 : Int32} {x3 : Int32} {x4 : Int32} {s0 : Int32} {h : PH} {r : Int32 × PH} (hq : f_Reader_readText_102 k43 a0 x1 x2 x3 x4 s0 h = some r) : E d 0 0 m_Reader_readText 102 [(0, .ref a0), (1, .int x1), (2, .int x2), (3, .int x3), (4, .int x4)] [.int s0] h (PI r) := by
  unfold f_Reader_readText_102 at hq
  obtain ⟨d, rfl⟩ : ∃ e, d = e + 1 := ⟨d - 1, by omega⟩
  refine E_is (ls' := [(5, .int s0), (0, .ref a0), (1, .int x1), (2, .int x2), (3, .int x3), (4, .int x4)]) d_Reader_readText_102 (Nat.le_of_ble_eq_true rfl) rfl ?_
  refine E_il 0 d_Reader_readText_104 rfl ?_
  refine E_zne (tgt := 111) d_Reader_readText_106 (by decide) (fun c => ?_) (fun c => ?_)
  · rw [if_neg c] at hq
    refine E_inc (v := 1) (ls' := [(4, .int (x4 + 1)), (5, .int s0), (0, .ref a0), (1, .int x1), (2, .int x2), (3, .int x3)]) 5 d_Reader_readText_111 rfl (Nat.le_of_ble_eq_true rfl) (by decide) rfl ?_
    refine E_goto (tgt := 43) d_Reader_readText_114 (by decide) ?_
    exact E_sub (ks := [2, 3, 4, 5, 0]) rfl <| hk43 _ _ _ _ _ _ _ hq
  · rw [if_pos c] at hq
    refine E_ic (v := 0) d_Reader_readText_109 (by decide) ?_
    exact E_rZ d_Reader_readText_110 rfl hq
def f_Reader_readText_43 : Nat → Nat → Int32 → Int32 → Int32 → Int32 → PH → Option (Int32 × PH)
  | 0, _, _, _, _, _, _ => none
  | n + 1, a0, x1, x2, x3, x4, h =>
    if 16 < x4 then
      rtZ 0 h
    else
      (ldI h 4 a0 9).bind fun v1 =>
      if v1 = (-1) then
        rtZ 1 h
      else
        if x1 = 0 then
          (isO h 4 a0).bind fun _ =>
          (f_Reader_lawLine a0  h).bind fun p8 =>
          f_Reader_readText_102 (fun a0 x1 x2 x3 x4 h => f_Reader_readText_43 n a0 x1 x2 x3 x4 h) a0 x1 x2 x3 x4 p8.1 p8.2
        else
          if x1 = 1 then
            (isO h 4 a0).bind fun _ =>
            (f_Reader_kinLine a0 x2 h).bind fun p6 =>
            f_Reader_readText_102 (fun a0 x1 x2 x3 x4 h => f_Reader_readText_43 n a0 x1 x2 x3 x4 h) a0 x1 x2 x3 x4 p6.1 p6.2
          else
            if x1 = 2 then
              (isO h 4 a0).bind fun _ =>
              (f_Reader_shiftLine a0 x2 x3 h).bind fun p4 =>
              f_Reader_readText_102 (fun a0 x1 x2 x3 x4 h => f_Reader_readText_43 n a0 x1 x2 x3 x4 h) a0 x1 x2 x3 x4 p4.1 p4.2
            else
              (isO h 4 a0).bind fun _ =>
              (f_Reader_roadLine a0  h).bind fun p2 =>
              f_Reader_readText_102 (fun a0 x1 x2 x3 x4 h => f_Reader_readText_43 n a0 x1 x2 x3 x4 h) a0 x1 x2 x3 x4 p2.1 p2.2
theorem t_Reader_readText_43 {d : Nat} (hd : 28 ≤ d) : ∀ (n : Nat) (a0 : Nat) (x1 : Int32) (x2 : Int32) (x3 : Int32) (x4 : Int32) (h : PH) (r : Int32 × PH), f_Reader_readText_43 n a0 x1 x2 x3 x4 h = some r → E d 0 0 m_Reader_readText 43 [(0, .ref a0), (1, .int x1), (2, .int x2), (3, .int x3), (4, .int x4)] [] h (PI r) := by
  intro n
  induction n with
  | zero => intro a0 x1 x2 x3 x4 h r hq; rw [f_Reader_readText_43] at hq; cases hq
  | succ n ih =>
    intro a0 x1 x2 x3 x4 h r hq
    rw [f_Reader_readText_43] at hq
    obtain ⟨d, rfl⟩ : ∃ e, d = e + 1 := ⟨d - 1, by omega⟩
    refine E_il 4 d_Reader_readText_43 rfl ?_
    refine E_bi (v := 16) d_Reader_readText_45 (by decide) ?_
    refine E_jgt (tgt := 117) d_Reader_readText_47 (by decide) (fun c => ?_) (fun c => ?_)
    · rw [if_pos c] at hq
      refine E_ic (v := 0) d_Reader_readText_117 (by decide) ?_
      exact E_rZ d_Reader_readText_118 rfl hq
    · rw [if_neg c] at hq
      refine E_aln 0 d_Reader_readText_50 rfl rfl ?_
      obtain ⟨v1, ev1, hq⟩ := bd hq
      refine E_gI d_Reader_readText_51 lk_Reader_50 rfl ev1 ?_
      refine E_ic (v := (-1)) d_Reader_readText_54 (by decide) ?_
      refine E_jne (tgt := 60) d_Reader_readText_55 (by decide) (fun c => ?_) (fun c => ?_)
      · rw [if_neg c] at hq
        refine E_iln 1 d_Reader_readText_60 rfl rfl ?_
        refine E_zne (tgt := 71) d_Reader_readText_61 (by decide) (fun c => ?_) (fun c => ?_)
        · rw [if_neg c] at hq
          refine E_iln 1 d_Reader_readText_71 rfl rfl ?_
          refine E_ic (v := 1) d_Reader_readText_72 (by decide) ?_
          refine E_jne (tgt := 84) d_Reader_readText_73 (by decide) (fun c => ?_) (fun c => ?_)
          · rw [if_neg c] at hq
            refine E_iln 1 d_Reader_readText_84 rfl rfl ?_
            refine E_ic (v := 2) d_Reader_readText_85 (by decide) ?_
            refine E_jne (tgt := 98) d_Reader_readText_86 (by decide) (fun c => ?_) (fun c => ?_)
            · rw [if_neg c] at hq
              refine E_aln 0 d_Reader_readText_98 rfl rfl ?_
              obtain ⟨q3, eq3, hq⟩ := bd hq
              obtain ⟨p2, ep2, hq⟩ := bd hq
              refine E_cV0I d_Reader_readText_99 ck_Reader_77 rfl rfl eq3 (Nat.le_of_ble_eq_true rfl) (Nat.le_of_ble_eq_true rfl) (t_Reader_roadLine (by omega) ep2) ?_
              exact t_Reader_readText_102 (by omega) ih hq
            · rw [if_pos c] at hq
              refine E_aln 0 d_Reader_readText_89 rfl rfl ?_
              refine E_iln 2 d_Reader_readText_90 rfl rfl ?_
              refine E_iln 3 d_Reader_readText_91 rfl rfl ?_
              obtain ⟨q5, eq5, hq⟩ := bd hq
              obtain ⟨p4, ep4, hq⟩ := bd hq
              refine E_cV2I d_Reader_readText_92 ck_Reader_73 rfl rfl eq5 (Nat.le_of_ble_eq_true rfl) (Nat.le_of_ble_eq_true rfl) (t_Reader_shiftLine (by omega) ep4) ?_
              refine E_goto (tgt := 102) d_Reader_readText_95 (by decide) ?_
              exact t_Reader_readText_102 (by omega) ih hq
          · rw [if_pos c] at hq
            refine E_aln 0 d_Reader_readText_76 rfl rfl ?_
            refine E_iln 2 d_Reader_readText_77 rfl rfl ?_
            obtain ⟨q7, eq7, hq⟩ := bd hq
            obtain ⟨p6, ep6, hq⟩ := bd hq
            refine E_cV1I d_Reader_readText_78 ck_Reader_69 rfl rfl eq7 (Nat.le_of_ble_eq_true rfl) (Nat.le_of_ble_eq_true rfl) (t_Reader_kinLine (by omega) ep6) ?_
            refine E_goto (tgt := 102) d_Reader_readText_81 (by decide) ?_
            exact t_Reader_readText_102 (by omega) ih hq
        · rw [if_pos c] at hq
          refine E_aln 0 d_Reader_readText_64 rfl rfl ?_
          obtain ⟨q9, eq9, hq⟩ := bd hq
          obtain ⟨p8, ep8, hq⟩ := bd hq
          refine E_cV0I d_Reader_readText_65 ck_Reader_65 rfl rfl eq9 (Nat.le_of_ble_eq_true rfl) (Nat.le_of_ble_eq_true rfl) (t_Reader_lawLine (by omega) ep8) ?_
          refine E_goto (tgt := 102) d_Reader_readText_68 (by decide) ?_
          exact t_Reader_readText_102 (by omega) ih hq
      · rw [if_pos c] at hq
        refine E_ic (v := 1) d_Reader_readText_58 (by decide) ?_
        exact E_rZ d_Reader_readText_59 rfl hq
def f_Reader_readText (a0 : Nat) (x1 : Int32) (x2 : Int32) (x3 : Int32) (h : PH) : Option (Int32 × PH) :=
  (stI h 4 a0 2 0).bind fun h1 =>
  (stI h1 4 a0 3 (-1)).bind fun h2 =>
  if x1 < 0 then
    rtZ 0 h2
  else
    if x1 ≤ 3 then
      (isO h2 4 a0).bind fun _ =>
      (f_Reader_scan a0  h2).bind fun h3 =>
      (ldR h3 4 a0 4).bind fun v5 =>
      (isO h3 2 v5).bind fun _ =>
      (f_Law_clear v5  h3).bind fun h6 =>
      (ldR h6 4 a0 5).bind fun v8 =>
      (isO h6 6 v8).bind fun _ =>
      (f_Row_clear v8  h6).bind fun p9 =>
      f_Reader_readText_43 FU a0 x1 x2 x3 0 p9.2
    else
      rtZ 0 h2
theorem t_Reader_readText {d : Nat} (hd : 28 ≤ d) {a0 : Nat} {x1 : Int32} {x2 : Int32} {x3 : Int32} {h : PH} {r : Int32 × PH} (hq : f_Reader_readText a0 x1 x2 x3 h = some r) : E d 0 0 m_Reader_readText 0 [(0, .ref a0), (1, .int x1), (2, .int x2), (3, .int x3)] [] h (PI r) := by
  unfold f_Reader_readText at hq
  obtain ⟨d, rfl⟩ : ∃ e, d = e + 1 := ⟨d - 1, by omega⟩
  refine E_aln 0 d_Reader_readText_0 rfl rfl ?_
  refine E_ic (v := 0) d_Reader_readText_1 (by decide) ?_
  obtain ⟨h1, eh1, hq⟩ := bd hq
  refine E_pI d_Reader_readText_2 lp_Reader_m_19 rfl eh1 ?_
  refine E_aln 0 d_Reader_readText_5 rfl rfl ?_
  refine E_ic (v := (-1)) d_Reader_readText_6 (by decide) ?_
  obtain ⟨h2, eh2, hq⟩ := bd hq
  refine E_pI d_Reader_readText_7 lp_Reader_m_22 rfl eh2 ?_
  refine E_iln 1 d_Reader_readText_10 rfl rfl ?_
  refine E_zlt (tgt := 19) d_Reader_readText_11 (by decide) (fun c => ?_) (fun c => ?_)
  · rw [if_pos c] at hq
    refine E_ic (v := 0) d_Reader_readText_19 (by decide) ?_
    exact E_rZ d_Reader_readText_20 rfl hq
  · rw [if_neg c] at hq
    refine E_iln 1 d_Reader_readText_14 rfl rfl ?_
    refine E_ic (v := 3) d_Reader_readText_15 (by decide) ?_
    refine E_jle (tgt := 21) d_Reader_readText_16 (by decide) (fun c => ?_) (fun c => ?_)
    · rw [if_pos c] at hq
      refine E_aln 0 d_Reader_readText_21 rfl rfl ?_
      obtain ⟨q4, eq4, hq⟩ := bd hq
      obtain ⟨h3, eh3, hq⟩ := bd hq
      refine E_cV0V d_Reader_readText_22 ck_Reader_56 rfl rfl eq4 (Nat.le_of_ble_eq_true rfl) (Nat.le_of_ble_eq_true rfl) (t_Reader_scan (by omega) eh3) ?_
      refine E_aln 0 d_Reader_readText_25 rfl rfl ?_
      obtain ⟨v5, ev5, hq⟩ := bd hq
      refine E_gR d_Reader_readText_26 lk_Reader_28 rfl ev5 ?_
      obtain ⟨q7, eq7, hq⟩ := bd hq
      obtain ⟨h6, eh6, hq⟩ := bd hq
      refine E_cV0V d_Reader_readText_29 ck_Reader_59 rfl rfl eq7 (Nat.le_of_ble_eq_true rfl) (Nat.le_of_ble_eq_true rfl) (t_Law_clear (by omega) eh6) ?_
      refine E_aln 0 d_Reader_readText_32 rfl rfl ?_
      obtain ⟨v8, ev8, hq⟩ := bd hq
      refine E_gR d_Reader_readText_33 lk_Reader_37 rfl ev8 ?_
      obtain ⟨q10, eq10, hq⟩ := bd hq
      obtain ⟨p9, ep9, hq⟩ := bd hq
      refine E_cV0I d_Reader_readText_36 ck_Reader_62 rfl rfl eq10 (Nat.le_of_ble_eq_true rfl) (Nat.le_of_ble_eq_true rfl) (t_Row_clear (by omega) ep9) ?_
      refine E_popi d_Reader_readText_39 ?_
      refine E_ic (v := 0) d_Reader_readText_40 (by decide) ?_
      refine E_is (ls' := [(4, .int 0), (0, .ref a0), (1, .int x1), (2, .int x2), (3, .int x3)]) d_Reader_readText_41 (Nat.le_of_ble_eq_true rfl) rfl ?_
      exact E_sub (ks := [1, 2, 3, 4, 0]) rfl <| t_Reader_readText_43 (by omega) _ _ _ _ _ _ _ _ hq
    · rw [if_neg c] at hq
      refine E_ic (v := 0) d_Reader_readText_19 (by decide) ?_
      exact E_rZ d_Reader_readText_20 rfl hq
def f_Law_copyFrom (a0 : Nat) (a1 : Nat) (h : PH) : Option (PH) :=
  (ldR h 2 a0 0).bind fun v1 =>
  (ldR h 2 a1 0).bind fun v2 =>
  (isO h 6 v1).bind fun _ =>
  (f_Row_copyFrom v1 v2 h).bind fun h3 =>
  (ldR h3 2 a1 1).bind fun v5 =>
  (ldR h3 2 a0 1).bind fun v6 =>
  (cpA h3 v5 0 v6 0 400).bind fun h7 =>
  (ldI h7 2 a1 2).bind fun v8 =>
  (stI h7 2 a0 2 v8).bind fun h9 =>
  some h9
theorem t_Law_copyFrom {d : Nat} (hd : 2 ≤ d) {a0 : Nat} {a1 : Nat} {h : PH} {r : PH} (hq : f_Law_copyFrom a0 a1 h = some r) : E d 0 0 m_Law_copyFrom 0 [(0, .ref a0), (1, .ref a1)] [] h (PV r) := by
  unfold f_Law_copyFrom at hq
  obtain ⟨d, rfl⟩ : ∃ e, d = e + 1 := ⟨d - 1, by omega⟩
  refine E_aln 0 d_Law_copyFrom_0 rfl rfl ?_
  obtain ⟨v1, ev1, hq⟩ := bd hq
  refine E_gR d_Law_copyFrom_1 lk_Law_14 rfl ev1 ?_
  refine E_aln 1 d_Law_copyFrom_4 rfl rfl ?_
  obtain ⟨v2, ev2, hq⟩ := bd hq
  refine E_gR d_Law_copyFrom_5 lk_Law_14 rfl ev2 ?_
  obtain ⟨q4, eq4, hq⟩ := bd hq
  obtain ⟨h3, eh3, hq⟩ := bd hq
  refine E_cV1V d_Law_copyFrom_8 ck_Law_38 rfl rfl eq4 (Nat.le_of_ble_eq_true rfl) (Nat.le_of_ble_eq_true rfl) (t_Row_copyFrom (by omega) eh3) ?_
  refine E_aln 1 d_Law_copyFrom_11 rfl rfl ?_
  obtain ⟨v5, ev5, hq⟩ := bd hq
  refine E_gR d_Law_copyFrom_12 lk_Law_20 rfl ev5 ?_
  refine E_ic (v := 0) d_Law_copyFrom_15 (by decide) ?_
  refine E_aln 0 d_Law_copyFrom_16 rfl rfl ?_
  obtain ⟨v6, ev6, hq⟩ := bd hq
  refine E_gR d_Law_copyFrom_17 lk_Law_20 rfl ev6 ?_
  refine E_ic (v := 0) d_Law_copyFrom_20 (by decide) ?_
  refine E_si (v := 400) d_Law_copyFrom_21 (by decide) ?_
  obtain ⟨h7, eh7, hq⟩ := bd hq
  refine E_cp d_Law_copyFrom_24 kj_Law_42 (Nat.le_of_ble_eq_true rfl) eh7 ?_
  refine E_aln 0 d_Law_copyFrom_27 rfl rfl ?_
  refine E_aln 1 d_Law_copyFrom_28 rfl rfl ?_
  obtain ⟨v8, ev8, hq⟩ := bd hq
  refine E_gI d_Law_copyFrom_29 lk_Law_24 rfl ev8 ?_
  obtain ⟨h9, eh9, hq⟩ := bd hq
  refine E_pI d_Law_copyFrom_32 lp_Law_m_24 rfl eh9 ?_
  exact E_rV d_Law_copyFrom_35 rfl hq
def f_Tc_text_127 (a0 : Nat) (s0 : Nat) (h : PH) : Option (Int32 × PH) :=
  (ldR h 8 a0 2).bind fun v1 =>
  (ldR h 4 v1 5).bind fun v2 =>
  (isO h 6 s0).bind fun _ =>
  (f_Row_copyFrom s0 v2 h).bind fun h3 =>
  (ldI h3 6 s0 2).bind fun v5 =>
  some (v5, h3)
theorem t_Tc_text_127 {d : Nat} (hd : 29 ≤ d) {a0 : Nat} {s0 : Nat} {h : PH} {r : Int32 × PH} (hq : f_Tc_text_127 a0 s0 h = some r) : E d 0 0 m_Tc_text 127 [(0, .ref a0)] [.ref s0] h (PI r) := by
  unfold f_Tc_text_127 at hq
  obtain ⟨d, rfl⟩ : ∃ e, d = e + 1 := ⟨d - 1, by omega⟩
  refine E_asn (ls' := [(3, .ref s0), (0, .ref a0)]) d_Tc_text_127 (Nat.le_of_ble_eq_true rfl) rfl ?_
  refine E_aln 0 d_Tc_text_128 rfl rfl ?_
  refine E_aln 1 d_Tc_text_129 rfl rfl ?_
  obtain ⟨v1, ev1, hq⟩ := bd hq
  refine E_gR d_Tc_text_130 lk_Tc_26 rfl ev1 ?_
  obtain ⟨v2, ev2, hq⟩ := bd hq
  refine E_gR d_Tc_text_133 lk_Tc_158 rfl ev2 ?_
  obtain ⟨q4, eq4, hq⟩ := bd hq
  obtain ⟨h3, eh3, hq⟩ := bd hq
  refine E_cV1V d_Tc_text_136 ck_Tc_159 rfl rfl eq4 (Nat.le_of_ble_eq_true rfl) (Nat.le_of_ble_eq_true rfl) (t_Row_copyFrom (by omega) eh3) ?_
  refine E_aln 0 d_Tc_text_139 rfl rfl ?_
  obtain ⟨v5, ev5, hq⟩ := bd hq
  refine E_gI d_Tc_text_140 lk_Tc_144 rfl ev5 ?_
  exact E_rI d_Tc_text_143 rfl hq
def f_Tc_text_90 (a0 : Nat) (x1 : Int32) (h : PH) : Option (Int32 × PH) :=
  if x1 = 1 then
    (ldR h 8 a0 0).bind fun v5 =>
    (ldR h 1 v5 3).bind fun v6 =>
    f_Tc_text_127 a0 v6 h
  else
    if x1 = 2 then
      (ldR h 8 a0 0).bind fun v3 =>
      (ldR h 1 v3 4).bind fun v4 =>
      f_Tc_text_127 a0 v4 h
    else
      (ldR h 8 a0 0).bind fun v1 =>
      (ldR h 1 v1 5).bind fun v2 =>
      f_Tc_text_127 a0 v2 h
theorem t_Tc_text_90 {d : Nat} (hd : 29 ≤ d) {a0 : Nat} {x1 : Int32} {h : PH} {r : Int32 × PH} (hq : f_Tc_text_90 a0 x1 h = some r) : E d 0 0 m_Tc_text 90 [(0, .ref a0), (1, .int x1)] [] h (PI r) := by
  unfold f_Tc_text_90 at hq
  obtain ⟨d, rfl⟩ : ∃ e, d = e + 1 := ⟨d - 1, by omega⟩
  refine E_iln 1 d_Tc_text_90 rfl rfl ?_
  refine E_ic (v := 1) d_Tc_text_91 (by decide) ?_
  refine E_jne (tgt := 105) d_Tc_text_92 (by decide) (fun c => ?_) (fun c => ?_)
  · rw [if_neg c] at hq
    refine E_iln 1 d_Tc_text_105 rfl rfl ?_
    refine E_ic (v := 2) d_Tc_text_106 (by decide) ?_
    refine E_jne (tgt := 120) d_Tc_text_107 (by decide) (fun c => ?_) (fun c => ?_)
    · rw [if_neg c] at hq
      refine E_aln 0 d_Tc_text_120 rfl rfl ?_
      obtain ⟨v1, ev1, hq⟩ := bd hq
      refine E_gR d_Tc_text_121 lk_Tc_10 rfl ev1 ?_
      obtain ⟨v2, ev2, hq⟩ := bd hq
      refine E_gR d_Tc_text_124 lk_Tc_155 rfl ev2 ?_
      exact E_sub (ks := [0]) rfl <| t_Tc_text_127 (by omega) hq
    · rw [if_pos c] at hq
      refine E_aln 0 d_Tc_text_110 rfl rfl ?_
      obtain ⟨v3, ev3, hq⟩ := bd hq
      refine E_gR d_Tc_text_111 lk_Tc_10 rfl ev3 ?_
      obtain ⟨v4, ev4, hq⟩ := bd hq
      refine E_gR d_Tc_text_114 lk_Tc_152 rfl ev4 ?_
      refine E_goto (tgt := 127) d_Tc_text_117 (by decide) ?_
      exact E_sub (ks := [0]) rfl <| t_Tc_text_127 (by omega) hq
  · rw [if_pos c] at hq
    refine E_aln 0 d_Tc_text_95 rfl rfl ?_
    obtain ⟨v5, ev5, hq⟩ := bd hq
    refine E_gR d_Tc_text_96 lk_Tc_10 rfl ev5 ?_
    obtain ⟨v6, ev6, hq⟩ := bd hq
    refine E_gR d_Tc_text_99 lk_Tc_149 rfl ev6 ?_
    refine E_goto (tgt := 127) d_Tc_text_102 (by decide) ?_
    exact E_sub (ks := [0]) rfl <| t_Tc_text_127 (by omega) hq
def f_Tc_text (a0 : Nat) (x1 : Int32) (h : PH) : Option (Int32 × PH) :=
  (ldR h 8 a0 2).bind fun v1 =>
  (ldR h 8 a0 0).bind fun v2 =>
  (ldR h 1 v2 0).bind fun v3 =>
  (ldI h 5 v3 1).bind fun v4 =>
  (ldR h 8 a0 0).bind fun v5 =>
  (ldR h 1 v5 0).bind fun v6 =>
  (ldI h 5 v6 9).bind fun v7 =>
  (isO h 4 v1).bind fun _ =>
  (f_Reader_readText v1 x1 v4 v7 h).bind fun p8 =>
  (ldR p8.2 8 a0 2).bind fun v10 =>
  (stI p8.2 4 v10 1 0).bind fun h11 =>
  if p8.1 = 0 then
    some ((-1), h11)
  else
    if x1 = 0 then
      (ldR h11 8 a0 0).bind fun v15 =>
      (ldR h11 1 v15 2).bind fun v16 =>
      (ldR h11 8 a0 2).bind fun v17 =>
      (ldR h11 4 v17 4).bind fun v18 =>
      (isO h11 2 v16).bind fun _ =>
      (f_Law_copyFrom v16 v18 h11).bind fun h19 =>
      (ldR h19 8 a0 0).bind fun v21 =>
      (ldR h19 1 v21 2).bind fun v22 =>
      (ldR h19 2 v22 0).bind fun v23 =>
      (ldI h19 6 v23 2).bind fun v24 =>
      some (v24, h19)
    else
      if x1 = 2 then
        (ldR h11 8 a0 1).bind fun v12 =>
        (isO h11 3 v12).bind fun _ =>
        (f_Log_forget v12  h11).bind fun h13 =>
        f_Tc_text_90 a0 x1 h13
      else
        f_Tc_text_90 a0 x1 h11
theorem t_Tc_text {d : Nat} (hd : 29 ≤ d) {a0 : Nat} {x1 : Int32} {h : PH} {r : Int32 × PH} (hq : f_Tc_text a0 x1 h = some r) : E d 0 0 m_Tc_text 0 [(0, .ref a0), (1, .int x1)] [] h (PI r) := by
  unfold f_Tc_text at hq
  obtain ⟨d, rfl⟩ : ∃ e, d = e + 1 := ⟨d - 1, by omega⟩
  refine E_aln 0 d_Tc_text_0 rfl rfl ?_
  obtain ⟨v1, ev1, hq⟩ := bd hq
  refine E_gR d_Tc_text_1 lk_Tc_26 rfl ev1 ?_
  refine E_iln 1 d_Tc_text_4 rfl rfl ?_
  refine E_aln 0 d_Tc_text_5 rfl rfl ?_
  obtain ⟨v2, ev2, hq⟩ := bd hq
  refine E_gR d_Tc_text_6 lk_Tc_10 rfl ev2 ?_
  obtain ⟨v3, ev3, hq⟩ := bd hq
  refine E_gR d_Tc_text_9 lk_Tc_47 rfl ev3 ?_
  obtain ⟨v4, ev4, hq⟩ := bd hq
  refine E_gI d_Tc_text_12 lk_Tc_120 rfl ev4 ?_
  refine E_aln 0 d_Tc_text_15 rfl rfl ?_
  obtain ⟨v5, ev5, hq⟩ := bd hq
  refine E_gR d_Tc_text_16 lk_Tc_10 rfl ev5 ?_
  obtain ⟨v6, ev6, hq⟩ := bd hq
  refine E_gR d_Tc_text_19 lk_Tc_47 rfl ev6 ?_
  obtain ⟨v7, ev7, hq⟩ := bd hq
  refine E_gI d_Tc_text_22 lk_Tc_123 rfl ev7 ?_
  obtain ⟨q9, eq9, hq⟩ := bd hq
  obtain ⟨p8, ep8, hq⟩ := bd hq
  refine E_cV3I d_Tc_text_25 ck_Tc_126 rfl rfl eq9 (Nat.le_of_ble_eq_true rfl) (Nat.le_of_ble_eq_true rfl) (t_Reader_readText (by omega) ep8) ?_
  refine E_isn (ls' := [(2, .int p8.1), (0, .ref a0), (1, .int x1)]) d_Tc_text_28 (Nat.le_of_ble_eq_true rfl) rfl ?_
  refine E_aln 1 d_Tc_text_29 rfl rfl ?_
  obtain ⟨v10, ev10, hq⟩ := bd hq
  refine E_gR d_Tc_text_30 lk_Tc_26 rfl ev10 ?_
  refine E_ic (v := 0) d_Tc_text_33 (by decide) ?_
  obtain ⟨h11, eh11, hq⟩ := bd hq
  refine E_pI d_Tc_text_34 lp_Tc_m_113 rfl eh11 ?_
  refine E_iln 0 d_Tc_text_37 rfl rfl ?_
  refine E_zne (tgt := 43) d_Tc_text_38 (by decide) (fun c => ?_) (fun c => ?_)
  · rw [if_neg c] at hq
    refine E_iln 2 d_Tc_text_43 rfl rfl ?_
    refine E_zne (tgt := 78) d_Tc_text_44 (by decide) (fun c => ?_) (fun c => ?_)
    · rw [if_neg c] at hq
      refine E_iln 2 d_Tc_text_78 rfl rfl ?_
      refine E_ic (v := 2) d_Tc_text_79 (by decide) ?_
      refine E_jne (tgt := 90) d_Tc_text_80 (by decide) (fun c => ?_) (fun c => ?_)
      · rw [if_neg c] at hq
        exact E_sub (ks := [1, 2]) rfl <| t_Tc_text_90 (by omega) hq
      · rw [if_pos c] at hq
        refine E_aln 1 d_Tc_text_83 rfl rfl ?_
        obtain ⟨v12, ev12, hq⟩ := bd hq
        refine E_gR d_Tc_text_84 lk_Tc_19 rfl ev12 ?_
        obtain ⟨q14, eq14, hq⟩ := bd hq
        obtain ⟨h13, eh13, hq⟩ := bd hq
        refine E_cV0V d_Tc_text_87 ck_Tc_54 rfl rfl eq14 (Nat.le_of_ble_eq_true rfl) (Nat.le_of_ble_eq_true rfl) (t_Log_forget (by omega) eh13) ?_
        exact E_sub (ks := [1, 2]) rfl <| t_Tc_text_90 (by omega) hq
    · rw [if_pos c] at hq
      refine E_aln 1 d_Tc_text_47 rfl rfl ?_
      obtain ⟨v15, ev15, hq⟩ := bd hq
      refine E_gR d_Tc_text_48 lk_Tc_10 rfl ev15 ?_
      obtain ⟨v16, ev16, hq⟩ := bd hq
      refine E_gR d_Tc_text_51 lk_Tc_129 rfl ev16 ?_
      refine E_aln 1 d_Tc_text_54 rfl rfl ?_
      obtain ⟨v17, ev17, hq⟩ := bd hq
      refine E_gR d_Tc_text_55 lk_Tc_26 rfl ev17 ?_
      obtain ⟨v18, ev18, hq⟩ := bd hq
      refine E_gR d_Tc_text_58 lk_Tc_133 rfl ev18 ?_
      obtain ⟨q20, eq20, hq⟩ := bd hq
      obtain ⟨h19, eh19, hq⟩ := bd hq
      refine E_cV1V d_Tc_text_61 ck_Tc_134 rfl rfl eq20 (Nat.le_of_ble_eq_true rfl) (Nat.le_of_ble_eq_true rfl) (t_Law_copyFrom (by omega) eh19) ?_
      refine E_aln 1 d_Tc_text_64 rfl rfl ?_
      obtain ⟨v21, ev21, hq⟩ := bd hq
      refine E_gR d_Tc_text_65 lk_Tc_10 rfl ev21 ?_
      obtain ⟨v22, ev22, hq⟩ := bd hq
      refine E_gR d_Tc_text_68 lk_Tc_129 rfl ev22 ?_
      obtain ⟨v23, ev23, hq⟩ := bd hq
      refine E_gR d_Tc_text_71 lk_Tc_140 rfl ev23 ?_
      obtain ⟨v24, ev24, hq⟩ := bd hq
      refine E_gI d_Tc_text_74 lk_Tc_144 rfl ev24 ?_
      exact E_rI d_Tc_text_77 rfl hq
  · rw [if_pos c] at hq
    refine E_ic (v := (-1)) d_Tc_text_41 (by decide) ?_
    exact E_rI d_Tc_text_42 rfl hq
def f_Tc_fault (a0 : Nat) (x1 : Int32) (h : PH) : Option (Int32 × PH) :=
  if x1 = 0 then
    (ldR h 8 a0 2).bind fun v3 =>
    (ldI h 4 v3 2).bind fun v4 =>
    some (v4, h)
  else
    if x1 = 1 then
      (ldR h 8 a0 2).bind fun v1 =>
      (ldI h 4 v1 3).bind fun v2 =>
      some (v2, h)
    else
      some ((-1), h)
theorem t_Tc_fault {d : Nat} (hd : 0 ≤ d) {a0 : Nat} {x1 : Int32} {h : PH} {r : Int32 × PH} (hq : f_Tc_fault a0 x1 h = some r) : E d 0 0 m_Tc_fault 0 [(0, .ref a0), (1, .int x1)] [] h (PI r) := by
  unfold f_Tc_fault at hq
  refine E_iln 1 d_Tc_fault_0 rfl rfl ?_
  refine E_zne (tgt := 12) d_Tc_fault_1 (by decide) (fun c => ?_) (fun c => ?_)
  · rw [if_neg c] at hq
    refine E_iln 1 d_Tc_fault_12 rfl rfl ?_
    refine E_ic (v := 1) d_Tc_fault_13 (by decide) ?_
    refine E_jne (tgt := 27) d_Tc_fault_14 (by decide) (fun c => ?_) (fun c => ?_)
    · rw [if_neg c] at hq
      refine E_ic (v := (-1)) d_Tc_fault_27 (by decide) ?_
      exact E_rI d_Tc_fault_28 rfl hq
    · rw [if_pos c] at hq
      refine E_aln 0 d_Tc_fault_17 rfl rfl ?_
      obtain ⟨v1, ev1, hq⟩ := bd hq
      refine E_gR d_Tc_fault_18 lk_Tc_26 rfl ev1 ?_
      obtain ⟨v2, ev2, hq⟩ := bd hq
      refine E_gI d_Tc_fault_21 lk_Tc_165 rfl ev2 ?_
      refine E_goto (tgt := 28) d_Tc_fault_24 (by decide) ?_
      exact E_rI d_Tc_fault_28 rfl hq
  · rw [if_pos c] at hq
    refine E_aln 0 d_Tc_fault_4 rfl rfl ?_
    obtain ⟨v3, ev3, hq⟩ := bd hq
    refine E_gR d_Tc_fault_5 lk_Tc_26 rfl ev3 ?_
    obtain ⟨v4, ev4, hq⟩ := bd hq
    refine E_gI d_Tc_fault_8 lk_Tc_162 rfl ev4 ?_
    exact E_rI d_Tc_fault_11 rfl hq
def f_Tc_of (a0 : Nat) (x1 : Int32) (x2 : Int32) (h : PH) : Option (Int32 × PH) :=
  (ldR h 8 a0 0).bind fun v1 =>
  (ldR h 1 v1 0).bind fun v2 =>
  (isO h 5 v2).bind fun _ =>
  (f_Realm_isTraveller v2 x1 h).bind fun p3 =>
  if p3.1 = 0 then
    some ((-2), p3.2)
  else
    if x2 < 20 then
      if x2 < 10 then
        if x2 = 0 then
          (ldR p3.2 5 v2 2).bind fun v5 =>
          (rdA p3.2 v5 x1).bind fun v6 =>
          some (v6, p3.2)
        else
          if x2 = 1 then
            (ldR p3.2 5 v2 3).bind fun v7 =>
            (rdA p3.2 v7 x1).bind fun v8 =>
            some (v8, p3.2)
          else
            if x2 = 2 then
              (ldR p3.2 5 v2 4).bind fun v9 =>
              (rdA p3.2 v9 x1).bind fun v10 =>
              some (v10, p3.2)
            else
              if x2 = 3 then
                (ldR p3.2 5 v2 5).bind fun v11 =>
                (rdA p3.2 v11 x1).bind fun v12 =>
                some (v12, p3.2)
              else
                if x2 = 4 then
                  (ldR p3.2 5 v2 6).bind fun v13 =>
                  (rdA p3.2 v13 x1).bind fun v14 =>
                  some (v14, p3.2)
                else
                  if x2 = 5 then
                    (ldI p3.2 5 v2 7).bind fun v15 =>
                    some (((jshr v15 x1) &&& 1), p3.2)
                  else
                    if x2 = 6 then
                      (ldI p3.2 5 v2 8).bind fun v16 =>
                      some (((jshr v16 x1) &&& 1), p3.2)
                    else
                      if x2 = 7 then
                        (ldR p3.2 8 a0 0).bind fun v17 =>
                        (isO p3.2 1 v17).bind fun _ =>
                        (f_Land_kinOf v17 x1 p3.2).bind fun p18 =>
                        some (p18.1, p18.2)
                      else
                        if x2 = 8 then
                          (ldR p3.2 8 a0 0).bind fun v20 =>
                          (isO p3.2 1 v20).bind fun _ =>
                          (f_Land_tells v20 v2 0 x1 (-1) p3.2).bind fun p21 =>
                          some (p21.1, p21.2)
                        else
                          some ((-2), p3.2)
      else
        (isO p3.2 5 v2).bind fun _ =>
        (f_Realm_isOfficer v2 (x2 - 10) p3.2).bind fun p23 =>
        if p23.1 = 0 then
          some ((-2), p23.2)
        else
          (ldR p23.2 8 a0 0).bind fun v25 =>
          (isO p23.2 1 v25).bind fun _ =>
          (f_Land_tells v25 v2 1 x1 (x2 - 10) p23.2).bind fun p26 =>
          some (p26.1, p26.2)
    else
      (isO p3.2 5 v2).bind fun _ =>
      (f_Realm_isOfficer v2 (x2 - 20) p3.2).bind fun p28 =>
      if p28.1 = 0 then
        some ((-2), p28.2)
      else
        (ldR p28.2 8 a0 0).bind fun v30 =>
        (isO p28.2 1 v30).bind fun _ =>
        (f_Land_tells v30 v2 2 x1 (x2 - 20) p28.2).bind fun p31 =>
        some (p31.1, p31.2)
theorem t_Tc_of {d : Nat} (hd : 4 ≤ d) {a0 : Nat} {x1 : Int32} {x2 : Int32} {h : PH} {r : Int32 × PH} (hq : f_Tc_of a0 x1 x2 h = some r) : E d 0 0 m_Tc_of 0 [(0, .ref a0), (1, .int x1), (2, .int x2)] [] h (PI r) := by
  unfold f_Tc_of at hq
  obtain ⟨d, rfl⟩ : ∃ e, d = e + 1 := ⟨d - 1, by omega⟩
  refine E_aln 0 d_Tc_of_0 rfl rfl ?_
  obtain ⟨v1, ev1, hq⟩ := bd hq
  refine E_gR d_Tc_of_1 lk_Tc_10 rfl ev1 ?_
  obtain ⟨v2, ev2, hq⟩ := bd hq
  refine E_gR d_Tc_of_4 lk_Tc_47 rfl ev2 ?_
  refine E_asn (ls' := [(3, .ref v2), (0, .ref a0), (1, .int x1), (2, .int x2)]) d_Tc_of_7 (Nat.le_of_ble_eq_true rfl) rfl ?_
  refine E_aln 0 d_Tc_of_8 rfl rfl ?_
  refine E_iln 2 d_Tc_of_9 rfl rfl ?_
  obtain ⟨q4, eq4, hq⟩ := bd hq
  obtain ⟨p3, ep3, hq⟩ := bd hq
  refine E_cV1I d_Tc_of_10 ck_Tc_168 rfl rfl eq4 (Nat.le_of_ble_eq_true rfl) (Nat.le_of_ble_eq_true rfl) (t_Realm_isTraveller (by omega) ep3) ?_
  refine E_zne (tgt := 19) d_Tc_of_13 (by decide) (fun c => ?_) (fun c => ?_)
  · rw [if_neg c] at hq
    refine E_iln 3 d_Tc_of_19 rfl rfl ?_
    refine E_bi (v := 20) d_Tc_of_20 (by decide) ?_
    refine E_jlt (tgt := 56) d_Tc_of_22 (by decide) (fun c => ?_) (fun c => ?_)
    · rw [if_pos c] at hq
      refine E_iln 3 d_Tc_of_56 rfl rfl ?_
      refine E_bi (v := 10) d_Tc_of_57 (by decide) ?_
      refine E_jlt (tgt := 93) d_Tc_of_59 (by decide) (fun c => ?_) (fun c => ?_)
      · rw [if_pos c] at hq
        refine E_iln 3 d_Tc_of_93 rfl rfl ?_
        by_cases c0 : x2 = 0
        · rw [if_pos c0] at hq
          refine E_table (tgt := 144) d_Tc_of_94 (by rw [c0]; decide) (fun _ _ => ⟨50, by rw [c0]; decide, by decide⟩) ?_
          refine E_aln 0 d_Tc_of_144 rfl rfl ?_
          obtain ⟨v5, ev5, hq⟩ := bd hq
          refine E_gR d_Tc_of_145 lk_Tc_175 rfl ev5 ?_
          refine E_iln 2 d_Tc_of_148 rfl rfl ?_
          obtain ⟨v6, ev6, hq⟩ := bd hq
          refine E_ra d_Tc_of_149 ev6 ?_
          exact E_rI d_Tc_of_150 rfl hq
        · rw [if_neg c0] at hq
          by_cases c1 : x2 = 1
          · rw [if_pos c1] at hq
            refine E_table (tgt := 151) d_Tc_of_94 (by rw [c1]; decide) (fun _ _ => ⟨57, by rw [c1]; decide, by decide⟩) ?_
            refine E_aln 0 d_Tc_of_151 rfl rfl ?_
            obtain ⟨v7, ev7, hq⟩ := bd hq
            refine E_gR d_Tc_of_152 lk_Tc_179 rfl ev7 ?_
            refine E_iln 2 d_Tc_of_155 rfl rfl ?_
            obtain ⟨v8, ev8, hq⟩ := bd hq
            refine E_ra d_Tc_of_156 ev8 ?_
            exact E_rI d_Tc_of_157 rfl hq
          · rw [if_neg c1] at hq
            by_cases c2 : x2 = 2
            · rw [if_pos c2] at hq
              refine E_table (tgt := 158) d_Tc_of_94 (by rw [c2]; decide) (fun _ _ => ⟨64, by rw [c2]; decide, by decide⟩) ?_
              refine E_aln 0 d_Tc_of_158 rfl rfl ?_
              obtain ⟨v9, ev9, hq⟩ := bd hq
              refine E_gR d_Tc_of_159 lk_Tc_182 rfl ev9 ?_
              refine E_iln 2 d_Tc_of_162 rfl rfl ?_
              obtain ⟨v10, ev10, hq⟩ := bd hq
              refine E_ra d_Tc_of_163 ev10 ?_
              exact E_rI d_Tc_of_164 rfl hq
            · rw [if_neg c2] at hq
              by_cases c3 : x2 = 3
              · rw [if_pos c3] at hq
                refine E_table (tgt := 165) d_Tc_of_94 (by rw [c3]; decide) (fun _ _ => ⟨71, by rw [c3]; decide, by decide⟩) ?_
                refine E_aln 0 d_Tc_of_165 rfl rfl ?_
                obtain ⟨v11, ev11, hq⟩ := bd hq
                refine E_gR d_Tc_of_166 lk_Tc_185 rfl ev11 ?_
                refine E_iln 2 d_Tc_of_169 rfl rfl ?_
                obtain ⟨v12, ev12, hq⟩ := bd hq
                refine E_ra d_Tc_of_170 ev12 ?_
                exact E_rI d_Tc_of_171 rfl hq
              · rw [if_neg c3] at hq
                by_cases c4 : x2 = 4
                · rw [if_pos c4] at hq
                  refine E_table (tgt := 172) d_Tc_of_94 (by rw [c4]; decide) (fun _ _ => ⟨78, by rw [c4]; decide, by decide⟩) ?_
                  refine E_aln 0 d_Tc_of_172 rfl rfl ?_
                  obtain ⟨v13, ev13, hq⟩ := bd hq
                  refine E_gR d_Tc_of_173 lk_Tc_188 rfl ev13 ?_
                  refine E_iln 2 d_Tc_of_176 rfl rfl ?_
                  obtain ⟨v14, ev14, hq⟩ := bd hq
                  refine E_ra d_Tc_of_177 ev14 ?_
                  exact E_rI d_Tc_of_178 rfl hq
                · rw [if_neg c4] at hq
                  by_cases c5 : x2 = 5
                  · rw [if_pos c5] at hq
                    refine E_table (tgt := 179) d_Tc_of_94 (by rw [c5]; decide) (fun _ _ => ⟨85, by rw [c5]; decide, by decide⟩) ?_
                    refine E_aln 0 d_Tc_of_179 rfl rfl ?_
                    obtain ⟨v15, ev15, hq⟩ := bd hq
                    refine E_gI d_Tc_of_180 lk_Tc_100 rfl ev15 ?_
                    refine E_iln 2 d_Tc_of_183 rfl rfl ?_
                    refine E_ishr d_Tc_of_184 ?_
                    refine E_ic (v := 1) d_Tc_of_185 (by decide) ?_
                    refine E_iand d_Tc_of_186 ?_
                    exact E_rI d_Tc_of_187 rfl hq
                  · rw [if_neg c5] at hq
                    by_cases c6 : x2 = 6
                    · rw [if_pos c6] at hq
                      refine E_table (tgt := 188) d_Tc_of_94 (by rw [c6]; decide) (fun _ _ => ⟨94, by rw [c6]; decide, by decide⟩) ?_
                      refine E_aln 0 d_Tc_of_188 rfl rfl ?_
                      obtain ⟨v16, ev16, hq⟩ := bd hq
                      refine E_gI d_Tc_of_189 lk_Tc_191 rfl ev16 ?_
                      refine E_iln 2 d_Tc_of_192 rfl rfl ?_
                      refine E_ishr d_Tc_of_193 ?_
                      refine E_ic (v := 1) d_Tc_of_194 (by decide) ?_
                      refine E_iand d_Tc_of_195 ?_
                      exact E_rI d_Tc_of_196 rfl hq
                    · rw [if_neg c6] at hq
                      by_cases c7 : x2 = 7
                      · rw [if_pos c7] at hq
                        refine E_table (tgt := 197) d_Tc_of_94 (by rw [c7]; decide) (fun _ _ => ⟨103, by rw [c7]; decide, by decide⟩) ?_
                        refine E_aln 1 d_Tc_of_197 rfl rfl ?_
                        obtain ⟨v17, ev17, hq⟩ := bd hq
                        refine E_gR d_Tc_of_198 lk_Tc_10 rfl ev17 ?_
                        refine E_iln 2 d_Tc_of_201 rfl rfl ?_
                        obtain ⟨q19, eq19, hq⟩ := bd hq
                        obtain ⟨p18, ep18, hq⟩ := bd hq
                        refine E_cV1I d_Tc_of_202 ck_Tc_194 rfl rfl eq19 (Nat.le_of_ble_eq_true rfl) (Nat.le_of_ble_eq_true rfl) (t_Land_kinOf (by omega) ep18) ?_
                        exact E_rI d_Tc_of_205 rfl hq
                      · rw [if_neg c7] at hq
                        by_cases c8 : x2 = 8
                        · rw [if_pos c8] at hq
                          refine E_table (tgt := 206) d_Tc_of_94 (by rw [c8]; decide) (fun _ _ => ⟨112, by rw [c8]; decide, by decide⟩) ?_
                          refine E_aln 1 d_Tc_of_206 rfl rfl ?_
                          obtain ⟨v20, ev20, hq⟩ := bd hq
                          refine E_gR d_Tc_of_207 lk_Tc_10 rfl ev20 ?_
                          refine E_aln 0 d_Tc_of_210 rfl rfl ?_
                          refine E_ic (v := 0) d_Tc_of_211 (by decide) ?_
                          refine E_iln 2 d_Tc_of_212 rfl rfl ?_
                          refine E_ic (v := (-1)) d_Tc_of_213 (by decide) ?_
                          obtain ⟨q22, eq22, hq⟩ := bd hq
                          obtain ⟨p21, ep21, hq⟩ := bd hq
                          refine E_cV4I d_Tc_of_214 ck_Tc_171 rfl rfl eq22 (Nat.le_of_ble_eq_true rfl) (Nat.le_of_ble_eq_true rfl) (t_Land_tells (by omega) ep21) ?_
                          exact E_rI d_Tc_of_217 rfl hq
                        · rw [if_neg c8] at hq
                          refine E_table (tgt := 218) d_Tc_of_94 (fun _ => by decide) (fun z1 z2 => (tab_out (l := [0, 1, 2, 3, 4, 5, 6, 7, 8]) ⟨(fun z => c0 (z.trans (by decide))), (fun z => c1 (z.trans (by decide))), (fun z => c2 (z.trans (by decide))), (fun z => c3 (z.trans (by decide))), (fun z => c4 (z.trans (by decide))), (fun z => c5 (z.trans (by decide))), (fun z => c6 (z.trans (by decide))), (fun z => c7 (z.trans (by decide))), (fun z => c8 (z.trans (by decide))), trivial⟩ (by decide) z1 z2).elim) ?_
                          refine E_bi (v := (-2)) d_Tc_of_218 (by decide) ?_
                          exact E_rI d_Tc_of_220 rfl hq
      · rw [if_neg c] at hq
        refine E_aln 0 d_Tc_of_62 rfl rfl ?_
        refine E_iln 3 d_Tc_of_63 rfl rfl ?_
        refine E_bi (v := 10) d_Tc_of_64 (by decide) ?_
        refine E_isub d_Tc_of_66 ?_
        obtain ⟨q24, eq24, hq⟩ := bd hq
        obtain ⟨p23, ep23, hq⟩ := bd hq
        refine E_cV1I d_Tc_of_67 ck_Tc_90 rfl rfl eq24 (Nat.le_of_ble_eq_true rfl) (Nat.le_of_ble_eq_true rfl) (t_Realm_isOfficer (by omega) ep23) ?_
        refine E_zeq (tgt := 90) d_Tc_of_70 (by decide) (fun c => ?_) (fun c => ?_)
        · rw [if_pos c] at hq
          refine E_bi (v := (-2)) d_Tc_of_90 (by decide) ?_
          exact E_rI d_Tc_of_92 rfl hq
        · rw [if_neg c] at hq
          refine E_aln 1 d_Tc_of_73 rfl rfl ?_
          obtain ⟨v25, ev25, hq⟩ := bd hq
          refine E_gR d_Tc_of_74 lk_Tc_10 rfl ev25 ?_
          refine E_aln 0 d_Tc_of_77 rfl rfl ?_
          refine E_ic (v := 1) d_Tc_of_78 (by decide) ?_
          refine E_iln 2 d_Tc_of_79 rfl rfl ?_
          refine E_iln 3 d_Tc_of_80 rfl rfl ?_
          refine E_bi (v := 10) d_Tc_of_81 (by decide) ?_
          refine E_isub d_Tc_of_83 ?_
          obtain ⟨q27, eq27, hq⟩ := bd hq
          obtain ⟨p26, ep26, hq⟩ := bd hq
          refine E_cV4I d_Tc_of_84 ck_Tc_171 rfl rfl eq27 (Nat.le_of_ble_eq_true rfl) (Nat.le_of_ble_eq_true rfl) (t_Land_tells (by omega) ep26) ?_
          refine E_goto (tgt := 92) d_Tc_of_87 (by decide) ?_
          exact E_rI d_Tc_of_92 rfl hq
    · rw [if_neg c] at hq
      refine E_aln 0 d_Tc_of_25 rfl rfl ?_
      refine E_iln 3 d_Tc_of_26 rfl rfl ?_
      refine E_bi (v := 20) d_Tc_of_27 (by decide) ?_
      refine E_isub d_Tc_of_29 ?_
      obtain ⟨q29, eq29, hq⟩ := bd hq
      obtain ⟨p28, ep28, hq⟩ := bd hq
      refine E_cV1I d_Tc_of_30 ck_Tc_90 rfl rfl eq29 (Nat.le_of_ble_eq_true rfl) (Nat.le_of_ble_eq_true rfl) (t_Realm_isOfficer (by omega) ep28) ?_
      refine E_zeq (tgt := 53) d_Tc_of_33 (by decide) (fun c => ?_) (fun c => ?_)
      · rw [if_pos c] at hq
        refine E_bi (v := (-2)) d_Tc_of_53 (by decide) ?_
        exact E_rI d_Tc_of_55 rfl hq
      · rw [if_neg c] at hq
        refine E_aln 1 d_Tc_of_36 rfl rfl ?_
        obtain ⟨v30, ev30, hq⟩ := bd hq
        refine E_gR d_Tc_of_37 lk_Tc_10 rfl ev30 ?_
        refine E_aln 0 d_Tc_of_40 rfl rfl ?_
        refine E_ic (v := 2) d_Tc_of_41 (by decide) ?_
        refine E_iln 2 d_Tc_of_42 rfl rfl ?_
        refine E_iln 3 d_Tc_of_43 rfl rfl ?_
        refine E_bi (v := 20) d_Tc_of_44 (by decide) ?_
        refine E_isub d_Tc_of_46 ?_
        obtain ⟨q32, eq32, hq⟩ := bd hq
        obtain ⟨p31, ep31, hq⟩ := bd hq
        refine E_cV4I d_Tc_of_47 ck_Tc_171 rfl rfl eq32 (Nat.le_of_ble_eq_true rfl) (Nat.le_of_ble_eq_true rfl) (t_Land_tells (by omega) ep31) ?_
        refine E_goto (tgt := 55) d_Tc_of_50 (by decide) ?_
        exact E_rI d_Tc_of_55 rfl hq
  · rw [if_pos c] at hq
    refine E_bi (v := (-2)) d_Tc_of_16 (by decide) ?_
    exact E_rI d_Tc_of_18 rfl hq
