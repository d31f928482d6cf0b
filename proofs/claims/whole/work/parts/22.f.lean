def f_Realm_rest_2 : Nat → Nat → Int32 → Int32 → PH → Option (PH)
  | 0, _, _, _, _ => none
  | n + 1, a0, x1, x2, h =>
    (ldI h 5 a0 9).bind fun v1 =>
    if v1 ≤ x2 then
      some h
    else
      if ((jshr x1 x2) &&& 1) = 0 then
        (ldR h 5 a0 13).bind fun v2 =>
        (rdA h v2 x2).bind fun v3 =>
        if v3 ≤ 0 then
          f_Realm_rest_2 n a0 x1 (x2 + 1) h
        else
          (ldR h 5 a0 13).bind fun v4 =>
          (rdA h v4 x2).bind fun v5 =>
          (wrA h v4 x2 (v5 - 1)).bind fun h6 =>
          f_Realm_rest_2 n a0 x1 (x2 + 1) h6
      else
        f_Realm_rest_2 n a0 x1 (x2 + 1) h
theorem t_Realm_rest_2 {d : Nat} (hd : 0 ≤ d) : ∀ (n : Nat) (a0 : Nat) (x1 : Int32) (x2 : Int32) (h : PH) (r : PH), f_Realm_rest_2 n a0 x1 x2 h = some r → E d 0 0 m_Realm_rest 2 [(0, .ref a0), (1, .int x1), (2, .int x2)] [] h (PV r) := by
  intro n
  induction n with
  | zero => intro a0 x1 x2 h r hq; rw [f_Realm_rest_2] at hq; cases hq
  | succ n ih =>
    intro a0 x1 x2 h r hq
    rw [f_Realm_rest_2] at hq
    refine E_iln 2 d_Realm_rest_2 rfl rfl ?_
    refine E_aln 0 d_Realm_rest_3 rfl rfl ?_
    obtain ⟨v1, ev1, hq⟩ := bd hq
    refine E_gI d_Realm_rest_4 lk_Realm_40 rfl ev1 ?_
    refine E_jge (tgt := 43) d_Realm_rest_7 (by decide) (fun c => ?_) (fun c => ?_)
    · rw [if_pos c] at hq
      exact E_rV d_Realm_rest_43 rfl hq
    · rw [if_neg c] at hq
      refine E_iln 1 d_Realm_rest_10 rfl rfl ?_
      refine E_iln 2 d_Realm_rest_11 rfl rfl ?_
      refine E_ishr d_Realm_rest_12 ?_
      refine E_ic (v := 1) d_Realm_rest_13 (by decide) ?_
      refine E_iand d_Realm_rest_14 ?_
      refine E_zne (tgt := 37) d_Realm_rest_15 (by decide) (fun c => ?_) (fun c => ?_)
      · rw [if_neg c] at hq
        refine E_inc (v := 1) (ls' := [(2, .int (x2 + 1)), (0, .ref a0), (1, .int x1)]) 2 d_Realm_rest_37 rfl (Nat.le_of_ble_eq_true rfl) (by decide) rfl ?_
        refine E_goto (tgt := 2) d_Realm_rest_40 (by decide) ?_
        exact E_sub (ks := [1, 2, 0]) rfl <| ih _ _ _ _ _ hq
      · rw [if_pos c] at hq
        refine E_aln 0 d_Realm_rest_18 rfl rfl ?_
        obtain ⟨v2, ev2, hq⟩ := bd hq
        refine E_gR d_Realm_rest_19 lk_Realm_52 rfl ev2 ?_
        refine E_iln 2 d_Realm_rest_22 rfl rfl ?_
        obtain ⟨v3, ev3, hq⟩ := bd hq
        refine E_ra d_Realm_rest_23 ev3 ?_
        refine E_zle (tgt := 37) d_Realm_rest_24 (by decide) (fun c => ?_) (fun c => ?_)
        · rw [if_pos c] at hq
          refine E_inc (v := 1) (ls' := [(2, .int (x2 + 1)), (0, .ref a0), (1, .int x1)]) 2 d_Realm_rest_37 rfl (Nat.le_of_ble_eq_true rfl) (by decide) rfl ?_
          refine E_goto (tgt := 2) d_Realm_rest_40 (by decide) ?_
          exact E_sub (ks := [1, 2, 0]) rfl <| ih _ _ _ _ _ hq
        · rw [if_neg c] at hq
          refine E_aln 0 d_Realm_rest_27 rfl rfl ?_
          obtain ⟨v4, ev4, hq⟩ := bd hq
          refine E_gR d_Realm_rest_28 lk_Realm_52 rfl ev4 ?_
          refine E_iln 2 d_Realm_rest_31 rfl rfl ?_
          refine E_dup2 d_Realm_rest_32 ?_
          obtain ⟨v5, ev5, hq⟩ := bd hq
          refine E_ra d_Realm_rest_33 ev5 ?_
          refine E_ic (v := 1) d_Realm_rest_34 (by decide) ?_
          refine E_isub d_Realm_rest_35 ?_
          obtain ⟨h6, eh6, hq⟩ := bd hq
          refine E_wa d_Realm_rest_36 eh6 ?_
          refine E_inc (v := 1) (ls' := [(2, .int (x2 + 1)), (0, .ref a0), (1, .int x1)]) 2 d_Realm_rest_37 rfl (Nat.le_of_ble_eq_true rfl) (by decide) rfl ?_
          refine E_goto (tgt := 2) d_Realm_rest_40 (by decide) ?_
          exact E_sub (ks := [1, 2, 0]) rfl <| ih _ _ _ _ _ hq
def f_Realm_rest (a0 : Nat) (x1 : Int32) (h : PH) : Option (PH) :=
  f_Realm_rest_2 FU a0 x1 0 h
theorem t_Realm_rest {d : Nat} (hd : 0 ≤ d) {a0 : Nat} {x1 : Int32} {h : PH} {r : PH} (hq : f_Realm_rest a0 x1 h = some r) : E d 0 0 m_Realm_rest 0 [(0, .ref a0), (1, .int x1)] [] h (PV r) := by
  unfold f_Realm_rest at hq
  refine E_ic (v := 0) d_Realm_rest_0 (by decide) ?_
  refine E_isn (ls' := [(2, .int 0), (0, .ref a0), (1, .int x1)]) d_Realm_rest_1 (Nat.le_of_ble_eq_true rfl) rfl ?_
  exact E_sub (ks := [1, 2, 0]) rfl <| t_Realm_rest_2 (by omega) _ _ _ _ _ _ hq
def f_Land_passHour_181 : Nat → Nat → Nat → Int32 → Int32 → PH → Option (PH)
  | 0, _, _, _, _, _ => none
  | n + 1, a0, a1, x4, x5, h =>
    (ldI h 5 a1 1).bind fun v1 =>
    if v1 ≤ x5 then
      (isO h 5 a1).bind fun _ =>
      (f_Realm_rest a1 x4 h).bind fun h2 =>
      (ldI h2 5 a1 18).bind fun v4 =>
      (stI h2 5 a1 18 (v4 + 1)).bind fun h5 =>
      some h5
    else
      (isO h 5 a1).bind fun _ =>
      (f_Realm_isInside a1 x5 h).bind fun p6 =>
      if p6.1 = 0 then
        f_Land_passHour_181 n a0 a1 x4 (x5 + 1) p6.2
      else
        (ldR p6.2 5 a1 5).bind fun v8 =>
        (ldR p6.2 5 a1 5).bind fun v9 =>
        (rdA p6.2 v9 x5).bind fun v10 =>
        (isO p6.2 1 a0).bind fun _ =>
        (f_Land_tells a0 a1 0 x5 (-1) p6.2).bind fun p11 =>
        (wrA p11.2 v8 x5 (jmin 99 (v10 + p11.1))).bind fun h13 =>
        f_Land_passHour_181 n a0 a1 x4 (x5 + 1) h13
theorem t_Land_passHour_181 {d : Nat} (hd : 5 ≤ d) : ∀ (n : Nat) (a0 : Nat) (a1 : Nat) (x4 : Int32) (x5 : Int32) (h : PH) (r : PH), f_Land_passHour_181 n a0 a1 x4 x5 h = some r → E d 0 0 m_Land_passHour 181 [(0, .ref a0), (1, .ref a1), (4, .int x4), (5, .int x5)] [] h (PV r) := by
  intro n
  induction n with
  | zero => intro a0 a1 x4 x5 h r hq; rw [f_Land_passHour_181] at hq; cases hq
  | succ n ih =>
    intro a0 a1 x4 x5 h r hq
    rw [f_Land_passHour_181] at hq
    obtain ⟨d, rfl⟩ : ∃ e, d = e + 1 := ⟨d - 1, by omega⟩
    refine E_il 3 d_Land_passHour_181 rfl ?_
    refine E_aln 1 d_Land_passHour_183 rfl rfl ?_
    obtain ⟨v1, ev1, hq⟩ := bd hq
    refine E_gI d_Land_passHour_184 lk_Land_172 rfl ev1 ?_
    refine E_jge (tgt := 234) d_Land_passHour_187 (by decide) (fun c => ?_) (fun c => ?_)
    · rw [if_pos c] at hq
      refine E_aln 1 d_Land_passHour_234 rfl rfl ?_
      refine E_il 2 d_Land_passHour_235 rfl ?_
      obtain ⟨q3, eq3, hq⟩ := bd hq
      obtain ⟨h2, eh2, hq⟩ := bd hq
      refine E_cV1V d_Land_passHour_237 ck_Land_175 rfl rfl eq3 (Nat.le_of_ble_eq_true rfl) (Nat.le_of_ble_eq_true rfl) (t_Realm_rest (by omega) eh2) ?_
      refine E_aln 1 d_Land_passHour_240 rfl rfl ?_
      refine E_dupr d_Land_passHour_241 ?_
      obtain ⟨v4, ev4, hq⟩ := bd hq
      refine E_gI d_Land_passHour_242 lk_Land_149 rfl ev4 ?_
      refine E_ic (v := 1) d_Land_passHour_245 (by decide) ?_
      refine E_iadd d_Land_passHour_246 ?_
      obtain ⟨h5, eh5, hq⟩ := bd hq
      refine E_pI d_Land_passHour_247 lp_Land_m_149 rfl eh5 ?_
      exact E_rV d_Land_passHour_250 rfl hq
    · rw [if_neg c] at hq
      refine E_aln 1 d_Land_passHour_190 rfl rfl ?_
      refine E_il 3 d_Land_passHour_191 rfl ?_
      obtain ⟨q7, eq7, hq⟩ := bd hq
      obtain ⟨p6, ep6, hq⟩ := bd hq
      refine E_cV1I d_Land_passHour_193 ck_Land_101 rfl rfl eq7 (Nat.le_of_ble_eq_true rfl) (Nat.le_of_ble_eq_true rfl) (t_Realm_isInside (by omega) ep6) ?_
      refine E_zeq (tgt := 228) d_Land_passHour_196 (by decide) (fun c => ?_) (fun c => ?_)
      · rw [if_pos c] at hq
        refine E_inc (v := 1) (ls' := [(5, .int (x5 + 1)), (0, .ref a0), (1, .ref a1), (4, .int x4)]) 3 d_Land_passHour_228 rfl (Nat.le_of_ble_eq_true rfl) (by decide) rfl ?_
        refine E_goto (tgt := 181) d_Land_passHour_231 (by decide) ?_
        exact E_sub (ks := [1, 2, 3, 0]) rfl <| ih _ _ _ _ _ _ hq
      · rw [if_neg c] at hq
        refine E_aln 1 d_Land_passHour_199 rfl rfl ?_
        obtain ⟨v8, ev8, hq⟩ := bd hq
        refine E_gR d_Land_passHour_200 lk_Land_111 rfl ev8 ?_
        refine E_il 3 d_Land_passHour_203 rfl ?_
        refine E_bi (v := 99) d_Land_passHour_205 (by decide) ?_
        refine E_aln 1 d_Land_passHour_207 rfl rfl ?_
        obtain ⟨v9, ev9, hq⟩ := bd hq
        refine E_gR d_Land_passHour_208 lk_Land_111 rfl ev9 ?_
        refine E_il 3 d_Land_passHour_211 rfl ?_
        obtain ⟨v10, ev10, hq⟩ := bd hq
        refine E_ra d_Land_passHour_213 ev10 ?_
        refine E_aln 0 d_Land_passHour_214 rfl rfl ?_
        refine E_aln 1 d_Land_passHour_215 rfl rfl ?_
        refine E_ic (v := 0) d_Land_passHour_216 (by decide) ?_
        refine E_il 3 d_Land_passHour_217 rfl ?_
        refine E_ic (v := (-1)) d_Land_passHour_219 (by decide) ?_
        obtain ⟨q12, eq12, hq⟩ := bd hq
        obtain ⟨p11, ep11, hq⟩ := bd hq
        refine E_cV4I d_Land_passHour_220 ck_Land_108 rfl rfl eq12 (Nat.le_of_ble_eq_true rfl) (Nat.le_of_ble_eq_true rfl) (t_Land_tells (by omega) ep11) ?_
        refine E_iadd d_Land_passHour_223 ?_
        refine E_min d_Land_passHour_224 kj_Land_138 (Nat.le_of_ble_eq_true rfl) ?_
        obtain ⟨h13, eh13, hq⟩ := bd hq
        refine E_wa d_Land_passHour_227 eh13 ?_
        refine E_inc (v := 1) (ls' := [(5, .int (x5 + 1)), (0, .ref a0), (1, .ref a1), (4, .int x4)]) 3 d_Land_passHour_228 rfl (Nat.le_of_ble_eq_true rfl) (by decide) rfl ?_
        refine E_goto (tgt := 181) d_Land_passHour_231 (by decide) ?_
        exact E_sub (ks := [1, 2, 3, 0]) rfl <| ih _ _ _ _ _ _ hq
def f_Land_passHour_137 (k74 : Nat → Nat → Int32 → Int32 → Int32 → Int32 → PH → Option (PH)) (a0 : Nat) (a1 : Nat) (x2 : Int32) (x3 : Int32) (x4 : Int32) (x5 : Int32) (s0 : Int32) (h : PH) : Option (PH) :=
  if s0 = (-1) then
    k74 a0 a1 x2 x3 x4 (x5 + 1) h
  else
    (isO h 1 a0).bind fun _ =>
    (f_Land_weighOne a0 a1 s0 x5 x2 h).bind fun p1 =>
    k74 a0 a1 x2 (x3 ||| (jshl 1 s0)) (x4 ||| (jshl 1 x5)) (x5 + 1) p1.2
theorem t_Land_passHour_137 {d : Nat} (hd : 5 ≤ d) {k74 : Nat → Nat → Int32 → Int32 → Int32 → Int32 → PH → Option (PH)} (hk74 : ∀ (a0 : Nat) (a1 : Nat) (x2 : Int32) (x3 : Int32) (x4 : Int32) (x5 : Int32) (h : PH) (r : PH), k74 a0 a1 x2 x3 x4 x5 h = some r → E d 0 0 m_Land_passHour 74 [(0, .ref a0), (1, .ref a1), (2, .int x2), (3, .int x3), (4, .int x4), (5, .int x5)] [] h (PV r)) {a0 : Nat} {a1 : Nat} {x2 : Int32} {x3 : Int32} {x4 : Int32} {x5 : Int32} {s0 : Int32} {h : PH} {r : PH} (hq : f_Land_passHour_137 k74 a0 a1 x2 x3 x4 x5 s0 h = some r) : E d 0 0 m_Land_passHour 137 [(0, .ref a0), (1, .ref a1), (2, .int x2), (3, .int x3), (4, .int x4), (5, .int x5)] [.int s0] h (PV r) := by
  unfold f_Land_passHour_137 at hq
  obtain ⟨d, rfl⟩ : ∃ e, d = e + 1 := ⟨d - 1, by omega⟩
  refine E_is (ls' := [(7, .int s0), (0, .ref a0), (1, .ref a1), (2, .int x2), (3, .int x3), (4, .int x4), (5, .int x5)]) d_Land_passHour_137 (Nat.le_of_ble_eq_true rfl) rfl ?_
  refine E_il 0 d_Land_passHour_139 rfl ?_
  refine E_ic (v := (-1)) d_Land_passHour_141 (by decide) ?_
  refine E_jeq (tgt := 172) d_Land_passHour_142 (by decide) (fun c => ?_) (fun c => ?_)
  · rw [if_pos c] at hq
    refine E_inc (v := 1) (ls' := [(5, .int (x5 + 1)), (7, .int s0), (0, .ref a0), (1, .ref a1), (2, .int x2), (3, .int x3), (4, .int x4)]) 6 d_Land_passHour_172 rfl (Nat.le_of_ble_eq_true rfl) (by decide) rfl ?_
    refine E_goto (tgt := 74) d_Land_passHour_175 (by decide) ?_
    exact E_sub (ks := [2, 3, 4, 5, 6, 0]) rfl <| hk74 _ _ _ _ _ _ _ _ hq
  · rw [if_neg c] at hq
    refine E_aln 1 d_Land_passHour_145 rfl rfl ?_
    refine E_aln 2 d_Land_passHour_146 rfl rfl ?_
    refine E_il 0 d_Land_passHour_147 rfl ?_
    refine E_il 6 d_Land_passHour_149 rfl ?_
    refine E_iln 3 d_Land_passHour_151 rfl rfl ?_
    obtain ⟨q2, eq2, hq⟩ := bd hq
    obtain ⟨p1, ep1, hq⟩ := bd hq
    refine E_cV4I d_Land_passHour_152 ck_Land_168 rfl rfl eq2 (Nat.le_of_ble_eq_true rfl) (Nat.le_of_ble_eq_true rfl) (t_Land_weighOne (by omega) ep1) ?_
    refine E_popi d_Land_passHour_155 ?_
    refine E_iln 4 d_Land_passHour_156 rfl rfl ?_
    refine E_ic (v := 1) d_Land_passHour_157 (by decide) ?_
    refine E_il 0 d_Land_passHour_158 rfl ?_
    refine E_ishl d_Land_passHour_160 ?_
    refine E_ior d_Land_passHour_161 ?_
    refine E_isn (ls' := [(3, .int (x3 ||| (jshl 1 s0))), (7, .int s0), (0, .ref a0), (1, .ref a1), (2, .int x2), (4, .int x4), (5, .int x5)]) d_Land_passHour_162 (Nat.le_of_ble_eq_true rfl) rfl ?_
    refine E_il 5 d_Land_passHour_163 rfl ?_
    refine E_ic (v := 1) d_Land_passHour_165 (by decide) ?_
    refine E_il 6 d_Land_passHour_166 rfl ?_
    refine E_ishl d_Land_passHour_168 ?_
    refine E_ior d_Land_passHour_169 ?_
    refine E_is (ls' := [(4, .int (x4 ||| (jshl 1 x5))), (3, .int (x3 ||| (jshl 1 s0))), (7, .int s0), (0, .ref a0), (1, .ref a1), (2, .int x2), (5, .int x5)]) d_Land_passHour_170 (Nat.le_of_ble_eq_true rfl) rfl ?_
    refine E_inc (v := 1) (ls' := [(5, .int (x5 + 1)), (4, .int (x4 ||| (jshl 1 x5))), (3, .int (x3 ||| (jshl 1 s0))), (7, .int s0), (0, .ref a0), (1, .ref a1), (2, .int x2)]) 6 d_Land_passHour_172 rfl (Nat.le_of_ble_eq_true rfl) (by decide) rfl ?_
    refine E_goto (tgt := 74) d_Land_passHour_175 (by decide) ?_
    exact E_sub (ks := [4, 5, 6, 2, 1, 0]) rfl <| hk74 _ _ _ _ _ _ _ _ hq
def f_Land_passHour_114 (k74 : Nat → Nat → Int32 → Int32 → Int32 → Int32 → PH → Option (PH)) (a0 : Nat) (a1 : Nat) (x2 : Int32) (x3 : Int32) (x4 : Int32) (x5 : Int32) (s0 : Int32) (h : PH) : Option (PH) :=
  if s0 = 0 then
    f_Land_passHour_137 k74 a0 a1 x2 x3 x4 x5 (-1) h
  else
    (ldR h 5 a1 10).bind fun v1 =>
    (rdA h v1 x5).bind fun v2 =>
    (isO h 5 a1).bind fun _ =>
    (f_Realm_firstAt a1 v2 x3 h).bind fun p3 =>
    f_Land_passHour_137 k74 a0 a1 x2 x3 x4 x5 p3.1 p3.2
theorem t_Land_passHour_114 {d : Nat} (hd : 5 ≤ d) {k74 : Nat → Nat → Int32 → Int32 → Int32 → Int32 → PH → Option (PH)} (hk74 : ∀ (a0 : Nat) (a1 : Nat) (x2 : Int32) (x3 : Int32) (x4 : Int32) (x5 : Int32) (h : PH) (r : PH), k74 a0 a1 x2 x3 x4 x5 h = some r → E d 0 0 m_Land_passHour 74 [(0, .ref a0), (1, .ref a1), (2, .int x2), (3, .int x3), (4, .int x4), (5, .int x5)] [] h (PV r)) {a0 : Nat} {a1 : Nat} {x2 : Int32} {x3 : Int32} {x4 : Int32} {x5 : Int32} {s0 : Int32} {h : PH} {r : PH} (hq : f_Land_passHour_114 k74 a0 a1 x2 x3 x4 x5 s0 h = some r) : E d 0 0 m_Land_passHour 114 [(0, .ref a0), (1, .ref a1), (2, .int x2), (3, .int x3), (4, .int x4), (5, .int x5)] [.int s0] h (PV r) := by
  unfold f_Land_passHour_114 at hq
  obtain ⟨d, rfl⟩ : ∃ e, d = e + 1 := ⟨d - 1, by omega⟩
  refine E_is (ls' := [(6, .int s0), (0, .ref a0), (1, .ref a1), (2, .int x2), (3, .int x3), (4, .int x4), (5, .int x5)]) d_Land_passHour_114 (Nat.le_of_ble_eq_true rfl) rfl ?_
  refine E_il 0 d_Land_passHour_116 rfl ?_
  refine E_zeq (tgt := 136) d_Land_passHour_118 (by decide) (fun c => ?_) (fun c => ?_)
  · rw [if_pos c] at hq
    refine E_ic (v := (-1)) d_Land_passHour_136 (by decide) ?_
    exact E_sub (ks := [1, 2, 3, 4, 5, 6]) rfl <| t_Land_passHour_137 (by omega) hk74 hq
  · rw [if_neg c] at hq
    refine E_aln 2 d_Land_passHour_121 rfl rfl ?_
    refine E_aln 2 d_Land_passHour_122 rfl rfl ?_
    obtain ⟨v1, ev1, hq⟩ := bd hq
    refine E_gR d_Land_passHour_123 lk_Land_159 rfl ev1 ?_
    refine E_il 6 d_Land_passHour_126 rfl ?_
    obtain ⟨v2, ev2, hq⟩ := bd hq
    refine E_ra d_Land_passHour_128 ev2 ?_
    refine E_iln 4 d_Land_passHour_129 rfl rfl ?_
    obtain ⟨q4, eq4, hq⟩ := bd hq
    obtain ⟨p3, ep3, hq⟩ := bd hq
    refine E_cV2I d_Land_passHour_130 ck_Land_165 rfl rfl eq4 (Nat.le_of_ble_eq_true rfl) (Nat.le_of_ble_eq_true rfl) (t_Realm_firstAt (by omega) ep3) ?_
    refine E_goto (tgt := 137) d_Land_passHour_133 (by decide) ?_
    exact E_sub (ks := [1, 2, 3, 4, 5, 6]) rfl <| t_Land_passHour_137 (by omega) hk74 hq
def f_Land_passHour_113 (k74 : Nat → Nat → Int32 → Int32 → Int32 → Int32 → PH → Option (PH)) (a0 : Nat) (a1 : Nat) (x2 : Int32) (x3 : Int32) (x4 : Int32) (x5 : Int32) (h : PH) : Option (PH) :=
  f_Land_passHour_114 k74 a0 a1 x2 x3 x4 x5 0 h
theorem t_Land_passHour_113 {d : Nat} (hd : 5 ≤ d) {k74 : Nat → Nat → Int32 → Int32 → Int32 → Int32 → PH → Option (PH)} (hk74 : ∀ (a0 : Nat) (a1 : Nat) (x2 : Int32) (x3 : Int32) (x4 : Int32) (x5 : Int32) (h : PH) (r : PH), k74 a0 a1 x2 x3 x4 x5 h = some r → E d 0 0 m_Land_passHour 74 [(0, .ref a0), (1, .ref a1), (2, .int x2), (3, .int x3), (4, .int x4), (5, .int x5)] [] h (PV r)) {a0 : Nat} {a1 : Nat} {x2 : Int32} {x3 : Int32} {x4 : Int32} {x5 : Int32} {h : PH} {r : PH} (hq : f_Land_passHour_113 k74 a0 a1 x2 x3 x4 x5 h = some r) : E d 0 0 m_Land_passHour 113 [(0, .ref a0), (1, .ref a1), (2, .int x2), (3, .int x3), (4, .int x4), (5, .int x5)] [] h (PV r) := by
  unfold f_Land_passHour_113 at hq
  obtain ⟨d, rfl⟩ : ∃ e, d = e + 1 := ⟨d - 1, by omega⟩
  refine E_ic (v := 0) d_Land_passHour_113 (by decide) ?_
  exact t_Land_passHour_114 (by omega) hk74 hq
def f_Land_passHour_74 : Nat → Nat → Nat → Int32 → Int32 → Int32 → Int32 → PH → Option (PH)
  | 0, _, _, _, _, _, _, _ => none
  | n + 1, a0, a1, x2, x3, x4, x5, h =>
    (ldI h 5 a1 9).bind fun v1 =>
    if v1 ≤ x5 then
      f_Land_passHour_181 FU a0 a1 x4 0 h
    else
      (ldR h 5 a1 13).bind fun v2 =>
      (rdA h v2 x5).bind fun v3 =>
      if 9 ≤ v3 then
        f_Land_passHour_113 (fun a0 a1 x2 x3 x4 x5 h => f_Land_passHour_74 n a0 a1 x2 x3 x4 x5 h) a0 a1 x2 x3 x4 x5 h
      else
        (ldR h 5 a1 10).bind fun v4 =>
        (rdA h v4 x5).bind fun v5 =>
        (isO h 5 a1).bind fun _ =>
        (f_Realm_isOpen a1 v5 h).bind fun p6 =>
        if p6.1 = 0 then
          f_Land_passHour_113 (fun a0 a1 x2 x3 x4 x5 h => f_Land_passHour_74 n a0 a1 x2 x3 x4 x5 h) a0 a1 x2 x3 x4 x5 p6.2
        else
          f_Land_passHour_114 (fun a0 a1 x2 x3 x4 x5 h => f_Land_passHour_74 n a0 a1 x2 x3 x4 x5 h) a0 a1 x2 x3 x4 x5 1 p6.2
theorem t_Land_passHour_74 {d : Nat} (hd : 5 ≤ d) : ∀ (n : Nat) (a0 : Nat) (a1 : Nat) (x2 : Int32) (x3 : Int32) (x4 : Int32) (x5 : Int32) (h : PH) (r : PH), f_Land_passHour_74 n a0 a1 x2 x3 x4 x5 h = some r → E d 0 0 m_Land_passHour 74 [(0, .ref a0), (1, .ref a1), (2, .int x2), (3, .int x3), (4, .int x4), (5, .int x5)] [] h (PV r) := by
  intro n
  induction n with
  | zero => intro a0 a1 x2 x3 x4 x5 h r hq; rw [f_Land_passHour_74] at hq; cases hq
  | succ n ih =>
    intro a0 a1 x2 x3 x4 x5 h r hq
    rw [f_Land_passHour_74] at hq
    obtain ⟨d, rfl⟩ : ∃ e, d = e + 1 := ⟨d - 1, by omega⟩
    refine E_il 5 d_Land_passHour_74 rfl ?_
    refine E_aln 1 d_Land_passHour_76 rfl rfl ?_
    obtain ⟨v1, ev1, hq⟩ := bd hq
    refine E_gI d_Land_passHour_77 lk_Land_156 rfl ev1 ?_
    refine E_jge (tgt := 178) d_Land_passHour_80 (by decide) (fun c => ?_) (fun c => ?_)
    · rw [if_pos c] at hq
      refine E_ic (v := 0) d_Land_passHour_178 (by decide) ?_
      refine E_is (ls' := [(5, .int 0), (0, .ref a0), (1, .ref a1), (2, .int x2), (3, .int x3), (4, .int x4)]) d_Land_passHour_179 (Nat.le_of_ble_eq_true rfl) rfl ?_
      exact E_sub (ks := [1, 2, 5, 0]) rfl <| t_Land_passHour_181 (by omega) _ _ _ _ _ _ _ hq
    · rw [if_neg c] at hq
      refine E_aln 1 d_Land_passHour_83 rfl rfl ?_
      obtain ⟨v2, ev2, hq⟩ := bd hq
      refine E_gR d_Land_passHour_84 lk_Land_135 rfl ev2 ?_
      refine E_il 5 d_Land_passHour_87 rfl ?_
      obtain ⟨v3, ev3, hq⟩ := bd hq
      refine E_ra d_Land_passHour_89 ev3 ?_
      refine E_bi (v := 9) d_Land_passHour_90 (by decide) ?_
      refine E_jge (tgt := 113) d_Land_passHour_92 (by decide) (fun c => ?_) (fun c => ?_)
      · rw [if_pos c] at hq
        exact t_Land_passHour_113 (by omega) ih hq
      · rw [if_neg c] at hq
        refine E_aln 1 d_Land_passHour_95 rfl rfl ?_
        refine E_aln 1 d_Land_passHour_96 rfl rfl ?_
        obtain ⟨v4, ev4, hq⟩ := bd hq
        refine E_gR d_Land_passHour_97 lk_Land_159 rfl ev4 ?_
        refine E_il 5 d_Land_passHour_100 rfl ?_
        obtain ⟨v5, ev5, hq⟩ := bd hq
        refine E_ra d_Land_passHour_102 ev5 ?_
        obtain ⟨q7, eq7, hq⟩ := bd hq
        obtain ⟨p6, ep6, hq⟩ := bd hq
        refine E_cV1I d_Land_passHour_103 ck_Land_162 rfl rfl eq7 (Nat.le_of_ble_eq_true rfl) (Nat.le_of_ble_eq_true rfl) (t_Realm_isOpen (by omega) ep6) ?_
        refine E_zeq (tgt := 113) d_Land_passHour_106 (by decide) (fun c => ?_) (fun c => ?_)
        · rw [if_pos c] at hq
          exact t_Land_passHour_113 (by omega) ih hq
        · rw [if_neg c] at hq
          refine E_ic (v := 1) d_Land_passHour_109 (by decide) ?_
          refine E_goto (tgt := 114) d_Land_passHour_110 (by decide) ?_
          exact t_Land_passHour_114 (by omega) ih hq
def f_Land_passHour_2 : Nat → Nat → Nat → Int32 → Int32 → PH → Option (PH)
  | 0, _, _, _, _, _ => none
  | n + 1, a0, a1, x2, x3, h =>
    (ldR h 1 a0 4).bind fun v1 =>
    (ldI h 6 v1 2).bind fun v2 =>
    if v2 ≤ x3 then
      f_Land_passHour_74 FU a0 a1 x2 0 0 0 h
    else
      (ldR h 1 a0 4).bind fun v3 =>
      (isO h 6 v3).bind fun _ =>
      (f_Row_get v3 x3 0 h).bind fun p4 =>
      (ldI p4.2 5 a1 18).bind fun v6 =>
      if p4.1 = v6 then
        (ldR p4.2 1 a0 4).bind fun v7 =>
        (isO p4.2 6 v7).bind fun _ =>
        (f_Row_get v7 x3 1 p4.2).bind fun p8 =>
        (ldR p8.2 1 a0 4).bind fun v10 =>
        (isO p8.2 6 v10).bind fun _ =>
        (f_Row_get v10 x3 2 p8.2).bind fun p11 =>
        (ldR p11.2 1 a0 4).bind fun v13 =>
        (isO p11.2 6 v13).bind fun _ =>
        (f_Row_get v13 x3 3 p11.2).bind fun p14 =>
        (isO p14.2 5 a1).bind fun _ =>
        (f_Realm_perform a1 p8.1 p11.1 p14.1 p14.2).bind fun h16 =>
        f_Land_passHour_2 n a0 a1 x2 (x3 + 1) h16
      else
        f_Land_passHour_2 n a0 a1 x2 (x3 + 1) p4.2
theorem t_Land_passHour_2 {d : Nat} (hd : 5 ≤ d) : ∀ (n : Nat) (a0 : Nat) (a1 : Nat) (x2 : Int32) (x3 : Int32) (h : PH) (r : PH), f_Land_passHour_2 n a0 a1 x2 x3 h = some r → E d 0 0 m_Land_passHour 2 [(0, .ref a0), (1, .ref a1), (2, .int x2), (3, .int x3)] [] h (PV r) := by
  intro n
  induction n with
  | zero => intro a0 a1 x2 x3 h r hq; rw [f_Land_passHour_2] at hq; cases hq
  | succ n ih =>
    intro a0 a1 x2 x3 h r hq
    rw [f_Land_passHour_2] at hq
    obtain ⟨d, rfl⟩ : ∃ e, d = e + 1 := ⟨d - 1, by omega⟩
    refine E_iln 3 d_Land_passHour_2 rfl rfl ?_
    refine E_aln 0 d_Land_passHour_3 rfl rfl ?_
    obtain ⟨v1, ev1, hq⟩ := bd hq
    refine E_gR d_Land_passHour_4 lk_Land_38 rfl ev1 ?_
    obtain ⟨v2, ev2, hq⟩ := bd hq
    refine E_gI d_Land_passHour_7 lk_Land_74 rfl ev2 ?_
    refine E_jge (tgt := 66) d_Land_passHour_10 (by decide) (fun c => ?_) (fun c => ?_)
    · rw [if_pos c] at hq
      refine E_ic (v := 0) d_Land_passHour_66 (by decide) ?_
      refine E_isn (ls' := [(3, .int 0), (0, .ref a0), (1, .ref a1), (2, .int x2)]) d_Land_passHour_67 (Nat.le_of_ble_eq_true rfl) rfl ?_
      refine E_ic (v := 0) d_Land_passHour_68 (by decide) ?_
      refine E_is (ls' := [(4, .int 0), (3, .int 0), (0, .ref a0), (1, .ref a1), (2, .int x2)]) d_Land_passHour_69 (Nat.le_of_ble_eq_true rfl) rfl ?_
      refine E_ic (v := 0) d_Land_passHour_71 (by decide) ?_
      refine E_is (ls' := [(5, .int 0), (4, .int 0), (3, .int 0), (0, .ref a0), (1, .ref a1), (2, .int x2)]) d_Land_passHour_72 (Nat.le_of_ble_eq_true rfl) rfl ?_
      exact E_sub (ks := [3, 4, 5, 2, 1, 0]) rfl <| t_Land_passHour_74 (by omega) _ _ _ _ _ _ _ _ _ hq
    · rw [if_neg c] at hq
      refine E_aln 0 d_Land_passHour_13 rfl rfl ?_
      obtain ⟨v3, ev3, hq⟩ := bd hq
      refine E_gR d_Land_passHour_14 lk_Land_38 rfl ev3 ?_
      refine E_iln 3 d_Land_passHour_17 rfl rfl ?_
      refine E_ic (v := 0) d_Land_passHour_18 (by decide) ?_
      obtain ⟨q5, eq5, hq⟩ := bd hq
      obtain ⟨p4, ep4, hq⟩ := bd hq
      refine E_cV2I d_Land_passHour_19 ck_Land_78 rfl rfl eq5 (Nat.le_of_ble_eq_true rfl) (Nat.le_of_ble_eq_true rfl) (t_Row_get (by omega) ep4) ?_
      refine E_aln 1 d_Land_passHour_22 rfl rfl ?_
      obtain ⟨v6, ev6, hq⟩ := bd hq
      refine E_gI d_Land_passHour_23 lk_Land_149 rfl ev6 ?_
      refine E_jne (tgt := 60) d_Land_passHour_26 (by decide) (fun c => ?_) (fun c => ?_)
      · rw [if_neg c] at hq
        refine E_inc (v := 1) (ls' := [(3, .int (x3 + 1)), (0, .ref a0), (1, .ref a1), (2, .int x2)]) 3 d_Land_passHour_60 rfl (Nat.le_of_ble_eq_true rfl) (by decide) rfl ?_
        refine E_goto (tgt := 2) d_Land_passHour_63 (by decide) ?_
        exact E_sub (ks := [1, 2, 3, 0]) rfl <| ih _ _ _ _ _ _ hq
      · rw [if_pos c] at hq
        refine E_aln 1 d_Land_passHour_29 rfl rfl ?_
        refine E_aln 0 d_Land_passHour_30 rfl rfl ?_
        obtain ⟨v7, ev7, hq⟩ := bd hq
        refine E_gR d_Land_passHour_31 lk_Land_38 rfl ev7 ?_
        refine E_iln 3 d_Land_passHour_34 rfl rfl ?_
        refine E_ic (v := 1) d_Land_passHour_35 (by decide) ?_
        obtain ⟨q9, eq9, hq⟩ := bd hq
        obtain ⟨p8, ep8, hq⟩ := bd hq
        refine E_cV2I d_Land_passHour_36 ck_Land_78 rfl rfl eq9 (Nat.le_of_ble_eq_true rfl) (Nat.le_of_ble_eq_true rfl) (t_Row_get (by omega) ep8) ?_
        refine E_aln 0 d_Land_passHour_39 rfl rfl ?_
        obtain ⟨v10, ev10, hq⟩ := bd hq
        refine E_gR d_Land_passHour_40 lk_Land_38 rfl ev10 ?_
        refine E_iln 3 d_Land_passHour_43 rfl rfl ?_
        refine E_ic (v := 2) d_Land_passHour_44 (by decide) ?_
        obtain ⟨q12, eq12, hq⟩ := bd hq
        obtain ⟨p11, ep11, hq⟩ := bd hq
        refine E_cV2I d_Land_passHour_45 ck_Land_78 rfl rfl eq12 (Nat.le_of_ble_eq_true rfl) (Nat.le_of_ble_eq_true rfl) (t_Row_get (by omega) ep11) ?_
        refine E_aln 0 d_Land_passHour_48 rfl rfl ?_
        obtain ⟨v13, ev13, hq⟩ := bd hq
        refine E_gR d_Land_passHour_49 lk_Land_38 rfl ev13 ?_
        refine E_iln 3 d_Land_passHour_52 rfl rfl ?_
        refine E_ic (v := 3) d_Land_passHour_53 (by decide) ?_
        obtain ⟨q15, eq15, hq⟩ := bd hq
        obtain ⟨p14, ep14, hq⟩ := bd hq
        refine E_cV2I d_Land_passHour_54 ck_Land_78 rfl rfl eq15 (Nat.le_of_ble_eq_true rfl) (Nat.le_of_ble_eq_true rfl) (t_Row_get (by omega) ep14) ?_
        obtain ⟨q17, eq17, hq⟩ := bd hq
        obtain ⟨h16, eh16, hq⟩ := bd hq
        refine E_cV3V d_Land_passHour_57 ck_Land_152 rfl rfl eq17 (Nat.le_of_ble_eq_true rfl) (Nat.le_of_ble_eq_true rfl) (t_Realm_perform (by omega) eh16) ?_
        refine E_inc (v := 1) (ls' := [(3, .int (x3 + 1)), (0, .ref a0), (1, .ref a1), (2, .int x2)]) 3 d_Land_passHour_60 rfl (Nat.le_of_ble_eq_true rfl) (by decide) rfl ?_
        refine E_goto (tgt := 2) d_Land_passHour_63 (by decide) ?_
        exact E_sub (ks := [1, 2, 3, 0]) rfl <| ih _ _ _ _ _ _ hq
def f_Land_passHour (a0 : Nat) (a1 : Nat) (x2 : Int32) (h : PH) : Option (PH) :=
  f_Land_passHour_2 FU a0 a1 x2 0 h
theorem t_Land_passHour {d : Nat} (hd : 5 ≤ d) {a0 : Nat} {a1 : Nat} {x2 : Int32} {h : PH} {r : PH} (hq : f_Land_passHour a0 a1 x2 h = some r) : E d 0 0 m_Land_passHour 0 [(0, .ref a0), (1, .ref a1), (2, .int x2)] [] h (PV r) := by
  unfold f_Land_passHour at hq
  obtain ⟨d, rfl⟩ : ∃ e, d = e + 1 := ⟨d - 1, by omega⟩
  refine E_ic (v := 0) d_Land_passHour_0 (by decide) ?_
  refine E_isn (ls' := [(3, .int 0), (0, .ref a0), (1, .ref a1), (2, .int x2)]) d_Land_passHour_1 (Nat.le_of_ble_eq_true rfl) rfl ?_
  exact E_sub (ks := [1, 2, 3, 0]) rfl <| t_Land_passHour_2 (by omega) _ _ _ _ _ _ _ hq
def f_Tc_hours_44 : Nat → Nat → Int32 → Nat → Int32 → Int32 → PH → Option (Int32 × PH)
  | 0, _, _, _, _, _, _ => none
  | n + 1, a0, x1, a2, x3, x4, h =>
    if x1 ≤ x4 then
      (ldI h 5 a2 7).bind fun v1 =>
      (f_Int_bitCount v1 h).bind fun p2 =>
      some ((p2.1 - x3), p2.2)
    else
      (ldR h 8 a0 1).bind fun v3 =>
      (isO h 3 v3).bind fun _ =>
      (f_Log_keep v3 a2 h).bind fun h4 =>
      (ldR h4 8 a0 0).bind fun v6 =>
      (isO h4 1 v6).bind fun _ =>
      (f_Land_passHour v6 a2 0 h4).bind fun h7 =>
      f_Tc_hours_44 n a0 x1 a2 x3 (x4 + 1) h7
theorem t_Tc_hours_44 {d : Nat} (hd : 6 ≤ d) : ∀ (n : Nat) (a0 : Nat) (x1 : Int32) (a2 : Nat) (x3 : Int32) (x4 : Int32) (h : PH) (r : Int32 × PH), f_Tc_hours_44 n a0 x1 a2 x3 x4 h = some r → E d 0 0 m_Tc_hours 44 [(0, .ref a0), (1, .int x1), (2, .ref a2), (3, .int x3), (4, .int x4)] [] h (PI r) := by
  intro n
  induction n with
  | zero => intro a0 x1 a2 x3 x4 h r hq; rw [f_Tc_hours_44] at hq; cases hq
  | succ n ih =>
    intro a0 x1 a2 x3 x4 h r hq
    rw [f_Tc_hours_44] at hq
    obtain ⟨d, rfl⟩ : ∃ e, d = e + 1 := ⟨d - 1, by omega⟩
    refine E_il 4 d_Tc_hours_44 rfl ?_
    refine E_iln 1 d_Tc_hours_46 rfl rfl ?_
    refine E_jge (tgt := 73) d_Tc_hours_47 (by decide) (fun c => ?_) (fun c => ?_)
    · rw [if_pos c] at hq
      refine E_aln 2 d_Tc_hours_73 rfl rfl ?_
      obtain ⟨v1, ev1, hq⟩ := bd hq
      refine E_gI d_Tc_hours_74 lk_Tc_100 rfl ev1 ?_
      obtain ⟨p2, ep2, hq⟩ := bd hq
      refine E_cS1I d_Tc_hours_77 ck_Tc_103 (Nat.le_of_ble_eq_true rfl) (Nat.le_of_ble_eq_true rfl) (t_Int_bitCount (by omega) ep2) ?_
      refine E_iln 3 d_Tc_hours_80 rfl rfl ?_
      refine E_isub d_Tc_hours_81 ?_
      exact E_rI d_Tc_hours_82 rfl hq
    · rw [if_neg c] at hq
      refine E_aln 0 d_Tc_hours_50 rfl rfl ?_
      obtain ⟨v3, ev3, hq⟩ := bd hq
      refine E_gR d_Tc_hours_51 lk_Tc_19 rfl ev3 ?_
      refine E_aln 2 d_Tc_hours_54 rfl rfl ?_
      obtain ⟨q5, eq5, hq⟩ := bd hq
      obtain ⟨h4, eh4, hq⟩ := bd hq
      refine E_cV1V d_Tc_hours_55 ck_Tc_78 rfl rfl eq5 (Nat.le_of_ble_eq_true rfl) (Nat.le_of_ble_eq_true rfl) (t_Log_keep (by omega) eh4) ?_
      refine E_aln 0 d_Tc_hours_58 rfl rfl ?_
      obtain ⟨v6, ev6, hq⟩ := bd hq
      refine E_gR d_Tc_hours_59 lk_Tc_10 rfl ev6 ?_
      refine E_aln 2 d_Tc_hours_62 rfl rfl ?_
      refine E_ic (v := 0) d_Tc_hours_63 (by decide) ?_
      obtain ⟨q8, eq8, hq⟩ := bd hq
      obtain ⟨h7, eh7, hq⟩ := bd hq
      refine E_cV2V d_Tc_hours_64 ck_Tc_109 rfl rfl eq8 (Nat.le_of_ble_eq_true rfl) (Nat.le_of_ble_eq_true rfl) (t_Land_passHour (by omega) eh7) ?_
      refine E_inc (v := 1) (ls' := [(4, .int (x4 + 1)), (0, .ref a0), (1, .int x1), (2, .ref a2), (3, .int x3)]) 4 d_Tc_hours_67 rfl (Nat.le_of_ble_eq_true rfl) (by decide) rfl ?_
      refine E_goto (tgt := 44) d_Tc_hours_70 (by decide) ?_
      exact E_sub (ks := [1, 2, 3, 4, 0]) rfl <| ih _ _ _ _ _ _ _ hq
def f_Tc_hours (a0 : Nat) (x1 : Int32) (h : PH) : Option (Int32 × PH) :=
  (ldR h 8 a0 0).bind fun v1 =>
  (ldR h 1 v1 0).bind fun v2 =>
  if x1 < 1 then
    some ((-1), h)
  else
    if 60 < x1 then
      some ((-1), h)
    else
      (ldI h 5 v2 18).bind fun v3 =>
      if (v3 + x1) ≤ 9999 then
        (ldI h 5 v2 7).bind fun v4 =>
        (f_Int_bitCount v4 h).bind fun p5 =>
        f_Tc_hours_44 FU a0 x1 v2 p5.1 0 p5.2
      else
        some ((-1), h)
theorem t_Tc_hours {d : Nat} (hd : 6 ≤ d) {a0 : Nat} {x1 : Int32} {h : PH} {r : Int32 × PH} (hq : f_Tc_hours a0 x1 h = some r) : E d 0 0 m_Tc_hours 0 [(0, .ref a0), (1, .int x1)] [] h (PI r) := by
  unfold f_Tc_hours at hq
  obtain ⟨d, rfl⟩ : ∃ e, d = e + 1 := ⟨d - 1, by omega⟩
  refine E_aln 0 d_Tc_hours_0 rfl rfl ?_
  obtain ⟨v1, ev1, hq⟩ := bd hq
  refine E_gR d_Tc_hours_1 lk_Tc_10 rfl ev1 ?_
  obtain ⟨v2, ev2, hq⟩ := bd hq
  refine E_gR d_Tc_hours_4 lk_Tc_47 rfl ev2 ?_
  refine E_asn (ls' := [(2, .ref v2), (0, .ref a0), (1, .int x1)]) d_Tc_hours_7 (Nat.le_of_ble_eq_true rfl) rfl ?_
  refine E_iln 2 d_Tc_hours_8 rfl rfl ?_
  refine E_ic (v := 1) d_Tc_hours_9 (by decide) ?_
  refine E_jlt (tgt := 31) d_Tc_hours_10 (by decide) (fun c => ?_) (fun c => ?_)
  · rw [if_pos c] at hq
    refine E_ic (v := (-1)) d_Tc_hours_31 (by decide) ?_
    exact E_rI d_Tc_hours_32 rfl hq
  · rw [if_neg c] at hq
    refine E_iln 2 d_Tc_hours_13 rfl rfl ?_
    refine E_bi (v := 60) d_Tc_hours_14 (by decide) ?_
    refine E_jgt (tgt := 31) d_Tc_hours_16 (by decide) (fun c => ?_) (fun c => ?_)
    · rw [if_pos c] at hq
      refine E_ic (v := (-1)) d_Tc_hours_31 (by decide) ?_
      exact E_rI d_Tc_hours_32 rfl hq
    · rw [if_neg c] at hq
      refine E_aln 0 d_Tc_hours_19 rfl rfl ?_
      obtain ⟨v3, ev3, hq⟩ := bd hq
      refine E_gI d_Tc_hours_20 lk_Tc_97 rfl ev3 ?_
      refine E_iln 2 d_Tc_hours_23 rfl rfl ?_
      refine E_iadd d_Tc_hours_24 ?_
      refine E_si (v := 9999) d_Tc_hours_25 (by decide) ?_
      refine E_jle (tgt := 33) d_Tc_hours_28 (by decide) (fun c => ?_) (fun c => ?_)
      · rw [if_pos c] at hq
        refine E_aln 0 d_Tc_hours_33 rfl rfl ?_
        obtain ⟨v4, ev4, hq⟩ := bd hq
        refine E_gI d_Tc_hours_34 lk_Tc_100 rfl ev4 ?_
        obtain ⟨p5, ep5, hq⟩ := bd hq
        refine E_cS1I d_Tc_hours_37 ck_Tc_103 (Nat.le_of_ble_eq_true rfl) (Nat.le_of_ble_eq_true rfl) (t_Int_bitCount (by omega) ep5) ?_
        refine E_isn (ls' := [(3, .int p5.1), (2, .ref v2), (0, .ref a0), (1, .int x1)]) d_Tc_hours_40 (Nat.le_of_ble_eq_true rfl) rfl ?_
        refine E_ic (v := 0) d_Tc_hours_41 (by decide) ?_
        refine E_is (ls' := [(4, .int 0), (3, .int p5.1), (2, .ref v2), (0, .ref a0), (1, .int x1)]) d_Tc_hours_42 (Nat.le_of_ble_eq_true rfl) rfl ?_
        exact E_sub (ks := [3, 4, 2, 1, 0]) rfl <| t_Tc_hours_44 (by omega) _ _ _ _ _ _ _ _ hq
      · rw [if_neg c] at hq
        refine E_ic (v := (-1)) d_Tc_hours_31 (by decide) ?_
        exact E_rI d_Tc_hours_32 rfl hq
def f_Reader_append_3 : Nat → Nat → Int32 → Int32 → PH → Option (PH)
  | 0, _, _, _, _ => none
  | n + 1, a0, x1, x2, h =>
    if x2 < 0 then
      some h
    else
      (ldI h 4 a0 1).bind fun v1 =>
      (ldR h 4 a0 0).bind fun v2 =>
      (lnA h v2).bind fun v3 =>
      if v3 ≤ v1 then
        f_Reader_append_3 n a0 x1 (x2 + (-8)) h
      else
        (ldR h 4 a0 0).bind fun v4 =>
        (ldI h 4 a0 1).bind fun v5 =>
        (wrA h v4 v5 ((jshr x1 x2) &&& 255)).bind fun h6 =>
        (ldI h6 4 a0 1).bind fun v7 =>
        (stI h6 4 a0 1 (v7 + 1)).bind fun h8 =>
        f_Reader_append_3 n a0 x1 (x2 + (-8)) h8
theorem t_Reader_append_3 {d : Nat} (hd : 0 ≤ d) : ∀ (n : Nat) (a0 : Nat) (x1 : Int32) (x2 : Int32) (h : PH) (r : PH), f_Reader_append_3 n a0 x1 x2 h = some r → E d 0 0 m_Reader_append 3 [(0, .ref a0), (1, .int x1), (2, .int x2)] [] h (PV r) := by
  intro n
  induction n with
  | zero => intro a0 x1 x2 h r hq; rw [f_Reader_append_3] at hq; cases hq
  | succ n ih =>
    intro a0 x1 x2 h r hq
    rw [f_Reader_append_3] at hq
    refine E_iln 2 d_Reader_append_3 rfl rfl ?_
    refine E_zlt (tgt := 51) d_Reader_append_4 (by decide) (fun c => ?_) (fun c => ?_)
    · rw [if_pos c] at hq
      exact E_rV d_Reader_append_51 rfl hq
    · rw [if_neg c] at hq
      refine E_aln 0 d_Reader_append_7 rfl rfl ?_
      obtain ⟨v1, ev1, hq⟩ := bd hq
      refine E_gI d_Reader_append_8 lk_Reader_15 rfl ev1 ?_
      refine E_aln 0 d_Reader_append_11 rfl rfl ?_
      obtain ⟨v2, ev2, hq⟩ := bd hq
      refine E_gR d_Reader_append_12 lk_Reader_11 rfl ev2 ?_
      obtain ⟨v3, ev3, hq⟩ := bd hq
      refine E_ln d_Reader_append_15 ev3 ?_
      refine E_jge (tgt := 45) d_Reader_append_16 (by decide) (fun c => ?_) (fun c => ?_)
      · rw [if_pos c] at hq
        refine E_inc (v := (-8)) (ls' := [(2, .int (x2 + (-8))), (0, .ref a0), (1, .int x1)]) 2 d_Reader_append_45 rfl (Nat.le_of_ble_eq_true rfl) (by decide) rfl ?_
        refine E_goto (tgt := 3) d_Reader_append_48 (by decide) ?_
        exact E_sub (ks := [1, 2, 0]) rfl <| ih _ _ _ _ _ hq
      · rw [if_neg c] at hq
        refine E_aln 0 d_Reader_append_19 rfl rfl ?_
        obtain ⟨v4, ev4, hq⟩ := bd hq
        refine E_gR d_Reader_append_20 lk_Reader_11 rfl ev4 ?_
        refine E_aln 0 d_Reader_append_23 rfl rfl ?_
        obtain ⟨v5, ev5, hq⟩ := bd hq
        refine E_gI d_Reader_append_24 lk_Reader_15 rfl ev5 ?_
        refine E_iln 1 d_Reader_append_27 rfl rfl ?_
        refine E_iln 2 d_Reader_append_28 rfl rfl ?_
        refine E_ishr d_Reader_append_29 ?_
        refine E_si (v := 255) d_Reader_append_30 (by decide) ?_
        refine E_iand d_Reader_append_33 ?_
        obtain ⟨h6, eh6, hq⟩ := bd hq
        refine E_wa d_Reader_append_34 eh6 ?_
        refine E_aln 0 d_Reader_append_35 rfl rfl ?_
        refine E_dupr d_Reader_append_36 ?_
        obtain ⟨v7, ev7, hq⟩ := bd hq
        refine E_gI d_Reader_append_37 lk_Reader_15 rfl ev7 ?_
        refine E_ic (v := 1) d_Reader_append_40 (by decide) ?_
        refine E_iadd d_Reader_append_41 ?_
        obtain ⟨h8, eh8, hq⟩ := bd hq
        refine E_pI d_Reader_append_42 lp_Reader_m_15 rfl eh8 ?_
        refine E_inc (v := (-8)) (ls' := [(2, .int (x2 + (-8))), (0, .ref a0), (1, .int x1)]) 2 d_Reader_append_45 rfl (Nat.le_of_ble_eq_true rfl) (by decide) rfl ?_
        refine E_goto (tgt := 3) d_Reader_append_48 (by decide) ?_
        exact E_sub (ks := [1, 2, 0]) rfl <| ih _ _ _ _ _ hq
def f_Reader_append (a0 : Nat) (x1 : Int32) (h : PH) : Option (PH) :=
  f_Reader_append_3 FU a0 x1 24 h
theorem t_Reader_append {d : Nat} (hd : 0 ≤ d) {a0 : Nat} {x1 : Int32} {h : PH} {r : PH} (hq : f_Reader_append a0 x1 h = some r) : E d 0 0 m_Reader_append 0 [(0, .ref a0), (1, .int x1)] [] h (PV r) := by
  unfold f_Reader_append at hq
  refine E_bi (v := 24) d_Reader_append_0 (by decide) ?_
  refine E_isn (ls' := [(2, .int 24), (0, .ref a0), (1, .int x1)]) d_Reader_append_2 (Nat.le_of_ble_eq_true rfl) rfl ?_
  exact E_sub (ks := [1, 2, 0]) rfl <| t_Reader_append_3 (by omega) _ _ _ _ _ _ hq
def f_Tc_feed (a0 : Nat) (x1 : Int32) (x2 : Int32) (x3 : Int32) (x4 : Int32) (x5 : Int32) (h : PH) : Option (Int32 × PH) :=
  (ldR h 8 a0 2).bind fun v1 =>
  (ldI h 4 v1 1).bind fun v2 =>
  if (v2 + 20) ≤ 400 then
    (ldR h 8 a0 2).bind fun v3 =>
    (isO h 4 v3).bind fun _ =>
    (f_Reader_append v3 x1 h).bind fun h4 =>
    (ldR h4 8 a0 2).bind fun v6 =>
    (isO h4 4 v6).bind fun _ =>
    (f_Reader_append v6 x2 h4).bind fun h7 =>
    (ldR h7 8 a0 2).bind fun v9 =>
    (isO h7 4 v9).bind fun _ =>
    (f_Reader_append v9 x3 h7).bind fun h10 =>
    (ldR h10 8 a0 2).bind fun v12 =>
    (isO h10 4 v12).bind fun _ =>
    (f_Reader_append v12 x4 h10).bind fun h13 =>
    (ldR h13 8 a0 2).bind fun v15 =>
    (isO h13 4 v15).bind fun _ =>
    (f_Reader_append v15 x5 h13).bind fun h16 =>
    (ldR h16 8 a0 2).bind fun v18 =>
    (ldI h16 4 v18 1).bind fun v19 =>
    some (v19, h16)
  else
    some ((-1), h)
theorem t_Tc_feed {d : Nat} (hd : 1 ≤ d) {a0 : Nat} {x1 : Int32} {x2 : Int32} {x3 : Int32} {x4 : Int32} {x5 : Int32} {h : PH} {r : Int32 × PH} (hq : f_Tc_feed a0 x1 x2 x3 x4 x5 h = some r) : E d 0 0 m_Tc_feed 0 [(0, .ref a0), (1, .int x1), (2, .int x2), (3, .int x3), (4, .int x4), (5, .int x5)] [] h (PI r) := by
  unfold f_Tc_feed at hq
  obtain ⟨d, rfl⟩ : ∃ e, d = e + 1 := ⟨d - 1, by omega⟩
  refine E_aln 0 d_Tc_feed_0 rfl rfl ?_
  obtain ⟨v1, ev1, hq⟩ := bd hq
  refine E_gR d_Tc_feed_1 lk_Tc_26 rfl ev1 ?_
  obtain ⟨v2, ev2, hq⟩ := bd hq
  refine E_gI d_Tc_feed_4 lk_Tc_113 rfl ev2 ?_
  refine E_bi (v := 20) d_Tc_feed_7 (by decide) ?_
  refine E_iadd d_Tc_feed_9 ?_
  refine E_si (v := 400) d_Tc_feed_10 (by decide) ?_
  refine E_jle (tgt := 18) d_Tc_feed_13 (by decide) (fun c => ?_) (fun c => ?_)
  · rw [if_pos c] at hq
    refine E_aln 0 d_Tc_feed_18 rfl rfl ?_
    obtain ⟨v3, ev3, hq⟩ := bd hq
    refine E_gR d_Tc_feed_19 lk_Tc_26 rfl ev3 ?_
    refine E_iln 1 d_Tc_feed_22 rfl rfl ?_
    obtain ⟨q5, eq5, hq⟩ := bd hq
    obtain ⟨h4, eh4, hq⟩ := bd hq
    refine E_cV1V d_Tc_feed_23 ck_Tc_116 rfl rfl eq5 (Nat.le_of_ble_eq_true rfl) (Nat.le_of_ble_eq_true rfl) (t_Reader_append (by omega) eh4) ?_
    refine E_aln 0 d_Tc_feed_26 rfl rfl ?_
    obtain ⟨v6, ev6, hq⟩ := bd hq
    refine E_gR d_Tc_feed_27 lk_Tc_26 rfl ev6 ?_
    refine E_iln 2 d_Tc_feed_30 rfl rfl ?_
    obtain ⟨q8, eq8, hq⟩ := bd hq
    obtain ⟨h7, eh7, hq⟩ := bd hq
    refine E_cV1V d_Tc_feed_31 ck_Tc_116 rfl rfl eq8 (Nat.le_of_ble_eq_true rfl) (Nat.le_of_ble_eq_true rfl) (t_Reader_append (by omega) eh7) ?_
    refine E_aln 0 d_Tc_feed_34 rfl rfl ?_
    obtain ⟨v9, ev9, hq⟩ := bd hq
    refine E_gR d_Tc_feed_35 lk_Tc_26 rfl ev9 ?_
    refine E_iln 3 d_Tc_feed_38 rfl rfl ?_
    obtain ⟨q11, eq11, hq⟩ := bd hq
    obtain ⟨h10, eh10, hq⟩ := bd hq
    refine E_cV1V d_Tc_feed_39 ck_Tc_116 rfl rfl eq11 (Nat.le_of_ble_eq_true rfl) (Nat.le_of_ble_eq_true rfl) (t_Reader_append (by omega) eh10) ?_
    refine E_aln 0 d_Tc_feed_42 rfl rfl ?_
    obtain ⟨v12, ev12, hq⟩ := bd hq
    refine E_gR d_Tc_feed_43 lk_Tc_26 rfl ev12 ?_
    refine E_il 4 d_Tc_feed_46 rfl ?_
    obtain ⟨q14, eq14, hq⟩ := bd hq
    obtain ⟨h13, eh13, hq⟩ := bd hq
    refine E_cV1V d_Tc_feed_48 ck_Tc_116 rfl rfl eq14 (Nat.le_of_ble_eq_true rfl) (Nat.le_of_ble_eq_true rfl) (t_Reader_append (by omega) eh13) ?_
    refine E_aln 0 d_Tc_feed_51 rfl rfl ?_
    obtain ⟨v15, ev15, hq⟩ := bd hq
    refine E_gR d_Tc_feed_52 lk_Tc_26 rfl ev15 ?_
    refine E_il 5 d_Tc_feed_55 rfl ?_
    obtain ⟨q17, eq17, hq⟩ := bd hq
    obtain ⟨h16, eh16, hq⟩ := bd hq
    refine E_cV1V d_Tc_feed_57 ck_Tc_116 rfl rfl eq17 (Nat.le_of_ble_eq_true rfl) (Nat.le_of_ble_eq_true rfl) (t_Reader_append (by omega) eh16) ?_
    refine E_aln 0 d_Tc_feed_60 rfl rfl ?_
    obtain ⟨v18, ev18, hq⟩ := bd hq
    refine E_gR d_Tc_feed_61 lk_Tc_26 rfl ev18 ?_
    obtain ⟨v19, ev19, hq⟩ := bd hq
    refine E_gI d_Tc_feed_64 lk_Tc_113 rfl ev19 ?_
    exact E_rI d_Tc_feed_67 rfl hq
  · rw [if_neg c] at hq
    refine E_ic (v := (-1)) d_Tc_feed_16 (by decide) ?_
    exact E_rI d_Tc_feed_17 rfl hq
def f_Tc_end (a0 : Nat) (x1 : Int32) (h : PH) : Option (Int32 × PH) :=
  if x1 < 0 then
    rtZ 0 h
  else
    (ldR h 8 a0 2).bind fun v1 =>
    (ldI h 4 v1 1).bind fun v2 =>
    if x1 ≤ v2 then
      (ldR h 8 a0 2).bind fun v3 =>
      (stI h 4 v3 1 x1).bind fun h4 =>
      rtZ 1 h4
    else
      rtZ 0 h
theorem t_Tc_end {d : Nat} (hd : 0 ≤ d) {a0 : Nat} {x1 : Int32} {h : PH} {r : Int32 × PH} (hq : f_Tc_end a0 x1 h = some r) : E d 0 0 m_Tc_end 0 [(0, .ref a0), (1, .int x1)] [] h (PI r) := by
  unfold f_Tc_end at hq
  refine E_iln 1 d_Tc_end_0 rfl rfl ?_
  refine E_zlt (tgt := 15) d_Tc_end_1 (by decide) (fun c => ?_) (fun c => ?_)
  · rw [if_pos c] at hq
    refine E_ic (v := 0) d_Tc_end_15 (by decide) ?_
    exact E_rZ d_Tc_end_16 rfl hq
  · rw [if_neg c] at hq
    refine E_iln 1 d_Tc_end_4 rfl rfl ?_
    refine E_aln 0 d_Tc_end_5 rfl rfl ?_
    obtain ⟨v1, ev1, hq⟩ := bd hq
    refine E_gR d_Tc_end_6 lk_Tc_26 rfl ev1 ?_
    obtain ⟨v2, ev2, hq⟩ := bd hq
    refine E_gI d_Tc_end_9 lk_Tc_113 rfl ev2 ?_
    refine E_jle (tgt := 17) d_Tc_end_12 (by decide) (fun c => ?_) (fun c => ?_)
    · rw [if_pos c] at hq
      refine E_aln 0 d_Tc_end_17 rfl rfl ?_
      obtain ⟨v3, ev3, hq⟩ := bd hq
      refine E_gR d_Tc_end_18 lk_Tc_26 rfl ev3 ?_
      refine E_iln 1 d_Tc_end_21 rfl rfl ?_
      obtain ⟨h4, eh4, hq⟩ := bd hq
      refine E_pI d_Tc_end_22 lp_Tc_m_113 rfl eh4 ?_
      refine E_ic (v := 1) d_Tc_end_25 (by decide) ?_
      exact E_rZ d_Tc_end_26 rfl hq
    · rw [if_neg c] at hq
      refine E_ic (v := 0) d_Tc_end_15 (by decide) ?_
      exact E_rZ d_Tc_end_16 rfl hq
def f_Row_copyFrom (a0 : Nat) (a1 : Nat) (h : PH) : Option (PH) :=
  (ldI h 6 a1 2).bind fun v1 =>
  (stI h 6 a0 2 v1).bind fun h2 =>
  (ldR h2 6 a1 1).bind fun v3 =>
  (ldR h2 6 a0 1).bind fun v4 =>
  (ldR h2 6 a0 1).bind fun v5 =>
  (lnA h2 v5).bind fun v6 =>
  (ldR h2 6 a1 1).bind fun v7 =>
  (lnA h2 v7).bind fun v8 =>
  (cpA h2 v3 0 v4 0 (jmin v6 v8)).bind fun h9 =>
  some h9
theorem t_Row_copyFrom {d : Nat} (hd : 1 ≤ d) {a0 : Nat} {a1 : Nat} {h : PH} {r : PH} (hq : f_Row_copyFrom a0 a1 h = some r) : E d 0 0 m_Row_copyFrom 0 [(0, .ref a0), (1, .ref a1)] [] h (PV r) := by
  unfold f_Row_copyFrom at hq
  obtain ⟨d, rfl⟩ : ∃ e, d = e + 1 := ⟨d - 1, by omega⟩
  refine E_aln 0 d_Row_copyFrom_0 rfl rfl ?_
  refine E_aln 1 d_Row_copyFrom_1 rfl rfl ?_
  obtain ⟨v1, ev1, hq⟩ := bd hq
  refine E_gI d_Row_copyFrom_2 lk_Row_9 rfl ev1 ?_
  obtain ⟨h2, eh2, hq⟩ := bd hq
  refine E_pI d_Row_copyFrom_5 lp_Row_m_9 rfl eh2 ?_
  refine E_aln 1 d_Row_copyFrom_8 rfl rfl ?_
  obtain ⟨v3, ev3, hq⟩ := bd hq
  refine E_gR d_Row_copyFrom_9 lk_Row_18 rfl ev3 ?_
  refine E_ic (v := 0) d_Row_copyFrom_12 (by decide) ?_
  refine E_aln 0 d_Row_copyFrom_13 rfl rfl ?_
  obtain ⟨v4, ev4, hq⟩ := bd hq
  refine E_gR d_Row_copyFrom_14 lk_Row_18 rfl ev4 ?_
  refine E_ic (v := 0) d_Row_copyFrom_17 (by decide) ?_
  refine E_aln 0 d_Row_copyFrom_18 rfl rfl ?_
  obtain ⟨v5, ev5, hq⟩ := bd hq
  refine E_gR d_Row_copyFrom_19 lk_Row_18 rfl ev5 ?_
  obtain ⟨v6, ev6, hq⟩ := bd hq
  refine E_ln d_Row_copyFrom_22 ev6 ?_
  refine E_aln 1 d_Row_copyFrom_23 rfl rfl ?_
  obtain ⟨v7, ev7, hq⟩ := bd hq
  refine E_gR d_Row_copyFrom_24 lk_Row_18 rfl ev7 ?_
  obtain ⟨v8, ev8, hq⟩ := bd hq
  refine E_ln d_Row_copyFrom_27 ev8 ?_
  refine E_min d_Row_copyFrom_28 kj_Row_22 (Nat.le_of_ble_eq_true rfl) ?_
  obtain ⟨h9, eh9, hq⟩ := bd hq
  refine E_cp d_Row_copyFrom_31 kj_Row_28 (Nat.le_of_ble_eq_true rfl) eh9 ?_
  exact E_rV d_Row_copyFrom_34 rfl hq
def f_Reader_isLetter_24 (h : PH) : Option (Int32 × PH) :=
  rtZ 1 h
theorem t_Reader_isLetter_24 {d : Nat} (hd : 0 ≤ d) {h : PH} {r : Int32 × PH} (hq : f_Reader_isLetter_24 h = some r) : E d 0 0 m_Reader_isLetter 24 [] [] h (PI r) := by
  unfold f_Reader_isLetter_24 at hq
  refine E_ic (v := 1) d_Reader_isLetter_24 (by decide) ?_
  refine E_goto (tgt := 29) d_Reader_isLetter_25 (by decide) ?_
  exact E_rZ d_Reader_isLetter_29 rfl hq
def f_Reader_isLetter_12 (x0 : Int32) (h : PH) : Option (Int32 × PH) :=
  if x0 < 65 then
    rtZ 0 h
  else
    if 90 < x0 then
      rtZ 0 h
    else
      f_Reader_isLetter_24  h
theorem t_Reader_isLetter_12 {d : Nat} (hd : 0 ≤ d) {x0 : Int32} {h : PH} {r : Int32 × PH} (hq : f_Reader_isLetter_12 x0 h = some r) : E d 0 0 m_Reader_isLetter 12 [(0, .int x0)] [] h (PI r) := by
  unfold f_Reader_isLetter_12 at hq
  refine E_iln 0 d_Reader_isLetter_12 rfl rfl ?_
  refine E_bi (v := 65) d_Reader_isLetter_13 (by decide) ?_
  refine E_jlt (tgt := 28) d_Reader_isLetter_15 (by decide) (fun c => ?_) (fun c => ?_)
  · rw [if_pos c] at hq
    refine E_ic (v := 0) d_Reader_isLetter_28 (by decide) ?_
    exact E_rZ d_Reader_isLetter_29 rfl hq
  · rw [if_neg c] at hq
    refine E_iln 0 d_Reader_isLetter_18 rfl rfl ?_
    refine E_bi (v := 90) d_Reader_isLetter_19 (by decide) ?_
    refine E_jgt (tgt := 28) d_Reader_isLetter_21 (by decide) (fun c => ?_) (fun c => ?_)
    · rw [if_pos c] at hq
      refine E_ic (v := 0) d_Reader_isLetter_28 (by decide) ?_
      exact E_rZ d_Reader_isLetter_29 rfl hq
    · rw [if_neg c] at hq
      exact E_sub (ks := []) rfl <| t_Reader_isLetter_24 (by omega) hq
def f_Reader_isLetter (x0 : Int32) (h : PH) : Option (Int32 × PH) :=
  if x0 < 97 then
    f_Reader_isLetter_12 x0 h
  else
    if x0 ≤ 122 then
      f_Reader_isLetter_24  h
    else
      f_Reader_isLetter_12 x0 h
theorem t_Reader_isLetter {d : Nat} (hd : 0 ≤ d) {x0 : Int32} {h : PH} {r : Int32 × PH} (hq : f_Reader_isLetter x0 h = some r) : E d 0 0 m_Reader_isLetter 0 [(0, .int x0)] [] h (PI r) := by
  unfold f_Reader_isLetter at hq
  refine E_iln 0 d_Reader_isLetter_0 rfl rfl ?_
  refine E_bi (v := 97) d_Reader_isLetter_1 (by decide) ?_
  refine E_jlt (tgt := 12) d_Reader_isLetter_3 (by decide) (fun c => ?_) (fun c => ?_)
  · rw [if_pos c] at hq
    exact t_Reader_isLetter_12 (by omega) hq
  · rw [if_neg c] at hq
    refine E_iln 0 d_Reader_isLetter_6 rfl rfl ?_
    refine E_bi (v := 122) d_Reader_isLetter_7 (by decide) ?_
    refine E_jle (tgt := 24) d_Reader_isLetter_9 (by decide) (fun c => ?_) (fun c => ?_)
    · rw [if_pos c] at hq
      exact E_sub (ks := []) rfl <| t_Reader_isLetter_24 (by omega) hq
    · rw [if_neg c] at hq
      exact t_Reader_isLetter_12 (by omega) hq
def f_Reader_isDigit (x0 : Int32) (h : PH) : Option (Int32 × PH) :=
  if x0 < 48 then
    rtZ 0 h
  else
    if 57 < x0 then
      rtZ 0 h
    else
      rtZ 1 h
theorem t_Reader_isDigit {d : Nat} (hd : 0 ≤ d) {x0 : Int32} {h : PH} {r : Int32 × PH} (hq : f_Reader_isDigit x0 h = some r) : E d 0 0 m_Reader_isDigit 0 [(0, .int x0)] [] h (PI r) := by
  unfold f_Reader_isDigit at hq
  refine E_iln 0 d_Reader_isDigit_0 rfl rfl ?_
  refine E_bi (v := 48) d_Reader_isDigit_1 (by decide) ?_
  refine E_jlt (tgt := 16) d_Reader_isDigit_3 (by decide) (fun c => ?_) (fun c => ?_)
  · rw [if_pos c] at hq
    refine E_ic (v := 0) d_Reader_isDigit_16 (by decide) ?_
    exact E_rZ d_Reader_isDigit_17 rfl hq
  · rw [if_neg c] at hq
    refine E_iln 0 d_Reader_isDigit_6 rfl rfl ?_
    refine E_bi (v := 57) d_Reader_isDigit_7 (by decide) ?_
    refine E_jgt (tgt := 16) d_Reader_isDigit_9 (by decide) (fun c => ?_) (fun c => ?_)
    · rw [if_pos c] at hq
      refine E_ic (v := 0) d_Reader_isDigit_16 (by decide) ?_
      exact E_rZ d_Reader_isDigit_17 rfl hq
    · rw [if_neg c] at hq
      refine E_ic (v := 1) d_Reader_isDigit_12 (by decide) ?_
      refine E_goto (tgt := 17) d_Reader_isDigit_13 (by decide) ?_
      exact E_rZ d_Reader_isDigit_17 rfl hq
/-! String.checkIndex, by hand: the static that it hands on is not known -/
def f_Str_checkIndex (x0 x1 : Int32) (h : PH) : Option PH := if x0 < 0 then none else if x0 < x1 then some h else none
theorem d_Pre_0 : decode m_Pre_checkIndex.2.2.1 0 = .ok (.iload_n 0, 1) := by decide +kernel
theorem d_Pre_1 : decode m_Pre_checkIndex.2.2.1 1 = .ok (.ifCond .lt 8, 3) := by decide +kernel
theorem d_Pre_4 : decode m_Pre_checkIndex.2.2.1 4 = .ok (.iload_n 0, 1) := by decide +kernel
theorem d_Pre_5 : decode m_Pre_checkIndex.2.2.1 5 = .ok (.iload_n 1, 1) := by decide +kernel
theorem d_Pre_6 : decode m_Pre_checkIndex.2.2.1 6 = .ok (.if_icmp .lt 10, 3) := by decide +kernel
theorem d_Pre_16 : decode m_Pre_checkIndex.2.2.1 16 = .ok (.iload_n 0, 1) := by decide +kernel
theorem d_Pre_17 : decode m_Pre_checkIndex.2.2.1 17 = .ok (.ireturn, 1) := by decide +kernel
theorem d_Sci_0 : decode m_Str_checkIndex.2.2.1 0 = .ok (.iload_n 0, 1) := by decide +kernel
theorem d_Sci_1 : decode m_Str_checkIndex.2.2.1 1 = .ok (.iload_n 1, 1) := by decide +kernel
theorem d_Sci_2 : decode m_Str_checkIndex.2.2.1 2 = .ok (.getstatic 1053, 3) := by decide +kernel
theorem d_Sci_5 : decode m_Str_checkIndex.2.2.1 5 = .ok (.invokestatic 1059, 3) := by decide +kernel
theorem d_Sci_8 : decode m_Str_checkIndex.2.2.1 8 = .ok (.pop, 1) := by decide +kernel
theorem d_Sci_9 : decode m_Str_checkIndex.2.2.1 9 = .ok (.return_, 1) := by decide +kernel
theorem kf_Sci : inT (.fieldLink "java/lang/String" 1053 "jdk/internal/util/Preconditions" "SIOOBE_FORMATTER" "Ljava/util/function/BiFunction;") := ⟨by decide +kernel, by decide +kernel⟩
theorem ck_Sci : CkS "java/lang/String" 1059 m_Pre_checkIndex 3 := ⟨⟨Or.inl ⟨by decide +kernel, by decide +kernel⟩, ⟨by decide +kernel, by decide +kernel⟩, ⟨by decide +kernel, by decide +kernel⟩, rfl, ⟨by decide +kernel, by decide +kernel, by decide +kernel⟩, by decide +kernel, by decide +kernel⟩, ⟨by decide +kernel, by decide +kernel⟩⟩
theorem t_Pre_checkIndex {d : Nat} {x0 x1 : Int32} {o : Option Nat} {h : PH} (h1 : ¬ x0 < 0) (h2 : x0 < x1) : E d 0 0 m_Pre_checkIndex 0 (lv_args 0 [.int x0, .int x1, va_rf o]) [] h (PI (x0, h)) := by
  have hl : lv_args 0 [.int x0, .int x1, va_rf o] = [(0, .int x0), (1, .int x1), (2, va_rf o)] := by cases o <;> rfl
  rw [hl]
  refine E_iln 0 d_Pre_0 rfl rfl ?_
  refine E_zlt (tgt := 9) d_Pre_1 (by decide) (fun c => absurd c h1) (fun c => ?_)
  refine E_iln 0 d_Pre_4 rfl rfl ?_
  refine E_iln 1 d_Pre_5 rfl rfl ?_
  refine E_jlt (tgt := 16) d_Pre_6 (by decide) (fun c => ?_) (fun c => absurd h2 c)
  refine E_iln 0 d_Pre_16 rfl rfl ?_
  exact E_rI d_Pre_17 rfl rfl
theorem t_Str_checkIndex {d : Nat} (hd : 1 ≤ d) {x0 x1 : Int32} {h r : PH} (hq : f_Str_checkIndex x0 x1 h = some r) : E d 0 0 m_Str_checkIndex 0 [(0, .int x0), (1, .int x1)] [] h (PV r) := by
  unfold f_Str_checkIndex at hq
  split at hq
  · cases hq
  rename_i g1
  split at hq
  · rename_i g2
    obtain ⟨d, rfl⟩ : ∃ e, d = e + 1 := ⟨d - 1, by omega⟩
    refine E_iln 0 d_Sci_0 rfl rfl ?_
    refine E_iln 1 d_Sci_1 rfl rfl ?_
    refine E_getF d_Sci_2 kf_Sci (fun o => ?_)
    refine E_cS3I (x0 := .int x0) (x1 := .int x1) (x2 := va_rf o) (rest := []) (p := (x0, h)) d_Sci_5 ck_Sci (Nat.le_of_ble_eq_true rfl) (by cases o <;> exact Nat.le_of_ble_eq_true rfl) (t_Pre_checkIndex g1 g2) ?_
    refine E_popi d_Sci_8 ?_
    exact E_rV d_Sci_9 rfl hq
  · cases hq

def f_Str_coder (a0 : Nat) (h : PH) : Option (Int32 × PH) :=
  if (1 : Int32) = 0 then
    rtB 1 h
  else
    (gcX h a0).bind fun v1 =>
    rtB v1 h
theorem t_Str_coder {d : Nat} (hd : 0 ≤ d) {a0 : Nat} {h : PH} {r : Int32 × PH} (hq : f_Str_coder a0 h = some r) : E d 0 0 m_Str_coder 0 [(0, .ref a0)] [] h (PI r) := by
  unfold f_Str_coder at hq
  refine E_gets d_Str_coder_0 kf_Str_38 ?_
  refine E_zeq (tgt := 13) d_Str_coder_3 (by decide) (fun c => ?_) (fun c => ?_)
  · rw [if_pos c] at hq
    refine E_ic (v := 1) d_Str_coder_13 (by decide) ?_
    exact E_rB d_Str_coder_14 rfl hq
  · rw [if_neg c] at hq
    refine E_aln 0 d_Str_coder_6 rfl rfl ?_
    obtain ⟨v1, ev1, hq⟩ := bd hq
    refine E_gcX d_Str_coder_7 kf_Str_15 ev1 ?_
    refine E_goto (tgt := 14) d_Str_coder_10 (by decide) ?_
    exact E_rB d_Str_coder_14 rfl hq
def f_Str_length (a0 : Nat) (h : PH) : Option (Int32 × PH) :=
  (gvX h a0).bind fun v1 =>
  (lnX h v1).bind fun v2 =>
  (isX h a0).bind fun _ =>
  (f_Str_coder a0  h).bind fun p3 =>
  some ((jshr v2 p3.1), p3.2)
theorem t_Str_length {d : Nat} (hd : 1 ≤ d) {a0 : Nat} {h : PH} {r : Int32 × PH} (hq : f_Str_length a0 h = some r) : E d 0 0 m_Str_length 0 [(0, .ref a0)] [] h (PI r) := by
  unfold f_Str_length at hq
  obtain ⟨d, rfl⟩ : ∃ e, d = e + 1 := ⟨d - 1, by omega⟩
  refine E_aln 0 d_Str_length_0 rfl rfl ?_
  obtain ⟨v1, ev1, hq⟩ := bd hq
  refine E_gvX d_Str_length_1 kf_Str_9 ev1 ?_
  obtain ⟨v2, ev2, hq⟩ := bd hq
  refine E_lx d_Str_length_4 ev2 ?_
  refine E_aln 0 d_Str_length_5 rfl rfl ?_
  obtain ⟨q4, eq4, hq⟩ := bd hq
  obtain ⟨p3, ep3, hq⟩ := bd hq
  refine E_cX0I d_Str_length_6 ck_Str_335 rfl eq4 (Nat.le_of_ble_eq_true rfl) (Nat.le_of_ble_eq_true rfl) (t_Str_coder (by omega) ep3) ?_
  refine E_ishr d_Str_length_9 ?_
  exact E_rI d_Str_length_10 rfl hq
def f_Str_isLatin1 (a0 : Nat) (h : PH) : Option (Int32 × PH) :=
  if (1 : Int32) = 0 then
    rtZ 0 h
  else
    (gcX h a0).bind fun v1 =>
    if v1 = 0 then
      rtZ 1 h
    else
      rtZ 0 h
theorem t_Str_isLatin1 {d : Nat} (hd : 0 ≤ d) {a0 : Nat} {h : PH} {r : Int32 × PH} (hq : f_Str_isLatin1 a0 h = some r) : E d 0 0 m_Str_isLatin1 0 [(0, .ref a0)] [] h (PI r) := by
  unfold f_Str_isLatin1 at hq
  refine E_gets d_Str_isLatin1_0 kf_Str_38 ?_
  refine E_zeq (tgt := 17) d_Str_isLatin1_3 (by decide) (fun c => ?_) (fun c => ?_)
  · rw [if_pos c] at hq
    refine E_ic (v := 0) d_Str_isLatin1_17 (by decide) ?_
    exact E_rZ d_Str_isLatin1_18 rfl hq
  · rw [if_neg c] at hq
    refine E_aln 0 d_Str_isLatin1_6 rfl rfl ?_
    obtain ⟨v1, ev1, hq⟩ := bd hq
    refine E_gcX d_Str_isLatin1_7 kf_Str_15 ev1 ?_
    refine E_zne (tgt := 17) d_Str_isLatin1_10 (by decide) (fun c => ?_) (fun c => ?_)
    · rw [if_neg c] at hq
      refine E_ic (v := 0) d_Str_isLatin1_17 (by decide) ?_
      exact E_rZ d_Str_isLatin1_18 rfl hq
    · rw [if_pos c] at hq
      refine E_ic (v := 1) d_Str_isLatin1_13 (by decide) ?_
      refine E_goto (tgt := 18) d_Str_isLatin1_14 (by decide) ?_
      exact E_rZ d_Str_isLatin1_18 rfl hq
def f_Lat_charAt (a0 : Nat) (x1 : Int32) (h : PH) : Option (Int32 × PH) :=
  (lnX h a0).bind fun v1 =>
  (f_Str_checkIndex x1 v1 h).bind fun h2 =>
  (rdX h2 a0 x1).bind fun v3 =>
  rtC ((((v3 &&& 255)).toUInt32 % 65536).toInt32) h2
theorem t_Lat_charAt {d : Nat} (hd : 2 ≤ d) {a0 : Nat} {x1 : Int32} {h : PH} {r : Int32 × PH} (hq : f_Lat_charAt a0 x1 h = some r) : E d 0 0 m_Lat_charAt 0 [(0, .ref a0), (1, .int x1)] [] h (PI r) := by
  unfold f_Lat_charAt at hq
  obtain ⟨d, rfl⟩ : ∃ e, d = e + 1 := ⟨d - 1, by omega⟩
  refine E_iln 1 d_Lat_charAt_0 rfl rfl ?_
  refine E_aln 0 d_Lat_charAt_1 rfl rfl ?_
  obtain ⟨v1, ev1, hq⟩ := bd hq
  refine E_lx d_Lat_charAt_2 ev1 ?_
  obtain ⟨h2, eh2, hq⟩ := bd hq
  refine E_cS2V d_Lat_charAt_3 ck_Lat_9 (Nat.le_of_ble_eq_true rfl) (Nat.le_of_ble_eq_true rfl) (t_Str_checkIndex (by omega) eh2) ?_
  refine E_aln 0 d_Lat_charAt_6 rfl rfl ?_
  refine E_iln 1 d_Lat_charAt_7 rfl rfl ?_
  obtain ⟨v3, ev3, hq⟩ := bd hq
  refine E_rx d_Lat_charAt_8 ev3 ?_
  refine E_si (v := 255) d_Lat_charAt_9 (by decide) ?_
  refine E_iand d_Lat_charAt_12 ?_
  refine E_i2c d_Lat_charAt_13 ?_
  exact E_rC d_Lat_charAt_14 rfl hq
def f_Str_charAt (a0 : Nat) (x1 : Int32) (h : PH) : Option (Int32 × PH) :=
  (isX h a0).bind fun _ =>
  (f_Str_isLatin1 a0  h).bind fun p1 =>
  if p1.1 = 0 then
    (gvX p1.2 a0).bind fun v3 =>
    none
  else
    (gvX p1.2 a0).bind fun v4 =>
    (f_Lat_charAt v4 x1 p1.2).bind fun p5 =>
    rtC p5.1 p5.2
theorem t_Str_charAt {d : Nat} (hd : 3 ≤ d) {a0 : Nat} {x1 : Int32} {h : PH} {r : Int32 × PH} (hq : f_Str_charAt a0 x1 h = some r) : E d 0 0 m_Str_charAt 0 [(0, .ref a0), (1, .int x1)] [] h (PI r) := by
  unfold f_Str_charAt at hq
  obtain ⟨d, rfl⟩ : ∃ e, d = e + 1 := ⟨d - 1, by omega⟩
  refine E_aln 0 d_Str_charAt_0 rfl rfl ?_
  obtain ⟨q2, eq2, hq⟩ := bd hq
  obtain ⟨p1, ep1, hq⟩ := bd hq
  refine E_cX0I d_Str_charAt_1 ck_Str_492 rfl eq2 (Nat.le_of_ble_eq_true rfl) (Nat.le_of_ble_eq_true rfl) (t_Str_isLatin1 (by omega) ep1) ?_
  refine E_zeq (tgt := 16) d_Str_charAt_4 (by decide) (fun c => ?_) (fun c => ?_)
  · rw [if_pos c] at hq
    refine E_aln 0 d_Str_charAt_16 rfl rfl ?_
    obtain ⟨v3, ev3, hq⟩ := bd hq
    refine E_gvX d_Str_charAt_17 kf_Str_9 ev3 ?_
    refine E_iln 1 d_Str_charAt_20 rfl rfl ?_
    cases hq
  · rw [if_neg c] at hq
    refine E_aln 0 d_Str_charAt_7 rfl rfl ?_
    obtain ⟨v4, ev4, hq⟩ := bd hq
    refine E_gvX d_Str_charAt_8 kf_Str_9 ev4 ?_
    refine E_iln 1 d_Str_charAt_11 rfl rfl ?_
    obtain ⟨p5, ep5, hq⟩ := bd hq
    refine E_cS2I d_Str_charAt_12 ck_Str_495 (Nat.le_of_ble_eq_true rfl) (Nat.le_of_ble_eq_true rfl) (t_Lat_charAt (by omega) ep5) ?_
    exact E_rC d_Str_charAt_15 rfl hq
def f_Reader_wordOf_100 (k11 : Nat → Int32 → Int32 → Int32 → Int32 → Int32 → Int32 → PH → Option (Int32 × PH)) (a0 : Nat) (x1 : Int32) (x2 : Int32) (x3 : Int32) (x6 : Int32) (h : PH) : Option (Int32 × PH) :=
  k11 a0 x1 x2 (x3 + 1) x1 1 (x6 + 1) h
theorem t_Reader_wordOf_100 {d : Nat} (hd : 4 ≤ d) {k11 : Nat → Int32 → Int32 → Int32 → Int32 → Int32 → Int32 → PH → Option (Int32 × PH)} (hk11 : ∀ (a0 : Nat) (x1 : Int32) (x2 : Int32) (x3 : Int32) (x4 : Int32) (x5 : Int32) (x6 : Int32) (h : PH) (r : Int32 × PH), k11 a0 x1 x2 x3 x4 x5 x6 h = some r → E d 0 0 m_Reader_wordOf 11 [(0, .ref a0), (1, .int x1), (2, .int x2), (3, .int x3), (4, .int x4), (5, .int x5), (6, .int x6)] [] h (PI r)) {a0 : Nat} {x1 : Int32} {x2 : Int32} {x3 : Int32} {x6 : Int32} {h : PH} {r : Int32 × PH} (hq : f_Reader_wordOf_100 k11 a0 x1 x2 x3 x6 h = some r) : E d 0 0 m_Reader_wordOf 100 [(0, .ref a0), (1, .int x1), (2, .int x2), (3, .int x3), (6, .int x6)] [] h (PI r) := by
  unfold f_Reader_wordOf_100 at hq
  obtain ⟨d, rfl⟩ : ∃ e, d = e + 1 := ⟨d - 1, by omega⟩
  refine E_inc (v := 1) (ls' := [(3, .int (x3 + 1)), (0, .ref a0), (1, .int x1), (2, .int x2), (6, .int x6)]) 3 d_Reader_wordOf_100 rfl (Nat.le_of_ble_eq_true rfl) (by decide) rfl ?_
  refine E_iln 2 d_Reader_wordOf_103 rfl rfl ?_
  refine E_is (ls' := [(4, .int x1), (3, .int (x3 + 1)), (0, .ref a0), (1, .int x1), (2, .int x2), (6, .int x6)]) d_Reader_wordOf_104 (Nat.le_of_ble_eq_true rfl) rfl ?_
  refine E_ic (v := 1) d_Reader_wordOf_106 (by decide) ?_
  refine E_is (ls' := [(5, .int 1), (4, .int x1), (3, .int (x3 + 1)), (0, .ref a0), (1, .int x1), (2, .int x2), (6, .int x6)]) d_Reader_wordOf_107 (Nat.le_of_ble_eq_true rfl) rfl ?_
  refine E_inc (v := 1) (ls' := [(6, .int (x6 + 1)), (5, .int 1), (4, .int x1), (3, .int (x3 + 1)), (0, .ref a0), (1, .int x1), (2, .int x2)]) 6 d_Reader_wordOf_109 rfl (Nat.le_of_ble_eq_true rfl) (by decide) rfl ?_
  refine E_goto (tgt := 11) d_Reader_wordOf_112 (by decide) ?_
  exact E_sub (ks := [4, 5, 6, 3, 2, 1, 0]) rfl <| hk11 _ _ _ _ _ _ _ _ _ hq
def f_Reader_wordOf_75 (k11 : Nat → Int32 → Int32 → Int32 → Int32 → Int32 → Int32 → PH → Option (Int32 × PH)) (a0 : Nat) (x1 : Int32) (x2 : Int32) (x3 : Int32) (x4 : Int32) (x6 : Int32) (s0 : Int32) (h : PH) : Option (Int32 × PH) :=
  k11 a0 x1 x2 x3 (x4 + 1) s0 (x6 + 1) h
theorem t_Reader_wordOf_75 {d : Nat} (hd : 4 ≤ d) {k11 : Nat → Int32 → Int32 → Int32 → Int32 → Int32 → Int32 → PH → Option (Int32 × PH)} (hk11 : ∀ (a0 : Nat) (x1 : Int32) (x2 : Int32) (x3 : Int32) (x4 : Int32) (x5 : Int32) (x6 : Int32) (h : PH) (r : Int32 × PH), k11 a0 x1 x2 x3 x4 x5 x6 h = some r → E d 0 0 m_Reader_wordOf 11 [(0, .ref a0), (1, .int x1), (2, .int x2), (3, .int x3), (4, .int x4), (5, .int x5), (6, .int x6)] [] h (PI r)) {a0 : Nat} {x1 : Int32} {x2 : Int32} {x3 : Int32} {x4 : Int32} {x6 : Int32} {s0 : Int32} {h : PH} {r : Int32 × PH} (hq : f_Reader_wordOf_75 k11 a0 x1 x2 x3 x4 x6 s0 h = some r) : E d 0 0 m_Reader_wordOf 75 [(0, .ref a0), (1, .int x1), (2, .int x2), (3, .int x3), (4, .int x4), (6, .int x6)] [.int s0] h (PI r) := by
  unfold f_Reader_wordOf_75 at hq
  obtain ⟨d, rfl⟩ : ∃ e, d = e + 1 := ⟨d - 1, by omega⟩
  refine E_is (ls' := [(5, .int s0), (0, .ref a0), (1, .int x1), (2, .int x2), (3, .int x3), (4, .int x4), (6, .int x6)]) d_Reader_wordOf_75 (Nat.le_of_ble_eq_true rfl) rfl ?_
  refine E_inc (v := 1) (ls' := [(4, .int (x4 + 1)), (5, .int s0), (0, .ref a0), (1, .int x1), (2, .int x2), (3, .int x3), (6, .int x6)]) 5 d_Reader_wordOf_77 rfl (Nat.le_of_ble_eq_true rfl) (by decide) rfl ?_
  refine E_goto (tgt := 109) d_Reader_wordOf_80 (by decide) ?_
  refine E_inc (v := 1) (ls' := [(6, .int (x6 + 1)), (4, .int (x4 + 1)), (5, .int s0), (0, .ref a0), (1, .int x1), (2, .int x2), (3, .int x3)]) 6 d_Reader_wordOf_109 rfl (Nat.le_of_ble_eq_true rfl) (by decide) rfl ?_
  refine E_goto (tgt := 11) d_Reader_wordOf_112 (by decide) ?_
  exact E_sub (ks := [3, 4, 5, 6, 1, 2, 0]) rfl <| hk11 _ _ _ _ _ _ _ _ _ hq
def f_Reader_wordOf_74 (k11 : Nat → Int32 → Int32 → Int32 → Int32 → Int32 → Int32 → PH → Option (Int32 × PH)) (a0 : Nat) (x1 : Int32) (x2 : Int32) (x3 : Int32) (x4 : Int32) (x6 : Int32) (h : PH) : Option (Int32 × PH) :=
  f_Reader_wordOf_75 k11 a0 x1 x2 x3 x4 x6 0 h
theorem t_Reader_wordOf_74 {d : Nat} (hd : 4 ≤ d) {k11 : Nat → Int32 → Int32 → Int32 → Int32 → Int32 → Int32 → PH → Option (Int32 × PH)} (hk11 : ∀ (a0 : Nat) (x1 : Int32) (x2 : Int32) (x3 : Int32) (x4 : Int32) (x5 : Int32) (x6 : Int32) (h : PH) (r : Int32 × PH), k11 a0 x1 x2 x3 x4 x5 x6 h = some r → E d 0 0 m_Reader_wordOf 11 [(0, .ref a0), (1, .int x1), (2, .int x2), (3, .int x3), (4, .int x4), (5, .int x5), (6, .int x6)] [] h (PI r)) {a0 : Nat} {x1 : Int32} {x2 : Int32} {x3 : Int32} {x4 : Int32} {x6 : Int32} {h : PH} {r : Int32 × PH} (hq : f_Reader_wordOf_74 k11 a0 x1 x2 x3 x4 x6 h = some r) : E d 0 0 m_Reader_wordOf 74 [(0, .ref a0), (1, .int x1), (2, .int x2), (3, .int x3), (4, .int x4), (6, .int x6)] [] h (PI r) := by
  unfold f_Reader_wordOf_74 at hq
  obtain ⟨d, rfl⟩ : ∃ e, d = e + 1 := ⟨d - 1, by omega⟩
  refine E_ic (v := 0) d_Reader_wordOf_74 (by decide) ?_
  exact t_Reader_wordOf_75 (by omega) hk11 hq
def f_Reader_wordOf_11 : Nat → Nat → Int32 → Int32 → Int32 → Int32 → Int32 → Int32 → PH → Option (Int32 × PH)
  | 0, _, _, _, _, _, _, _, _ => none
  | n + 1, a0, x1, x2, x3, x4, x5, x6, h =>
    (isX h ((gX h).1)).bind fun _ =>
    (f_Str_length ((gX h).1)  h).bind fun p1 =>
    if p1.1 ≤ x6 then
      some ((-2), p1.2)
    else
      (isX p1.2 ((gX p1.2).1)).bind fun _ =>
      (f_Str_charAt ((gX p1.2).1) x6 p1.2).bind fun p3 =>
      if p3.1 = 32 then
        if x5 = 0 then
          f_Reader_wordOf_100 (fun a0 x1 x2 x3 x4 x5 x6 h => f_Reader_wordOf_11 n a0 x1 x2 x3 x4 x5 x6 h) a0 x1 x2 x3 x6 p3.2
        else
          if x4 = x2 then
            some ((20000 + x3), p3.2)
          else
            f_Reader_wordOf_100 (fun a0 x1 x2 x3 x4 x5 x6 h => f_Reader_wordOf_11 n a0 x1 x2 x3 x4 x5 x6 h) a0 x1 x2 x3 x6 p3.2
      else
        if x5 = 0 then
          f_Reader_wordOf_74 (fun a0 x1 x2 x3 x4 x5 x6 h => f_Reader_wordOf_11 n a0 x1 x2 x3 x4 x5 x6 h) a0 x1 x2 x3 x4 x6 p3.2
        else
          if x2 ≤ x4 then
            f_Reader_wordOf_74 (fun a0 x1 x2 x3 x4 x5 x6 h => f_Reader_wordOf_11 n a0 x1 x2 x3 x4 x5 x6 h) a0 x1 x2 x3 x4 x6 p3.2
          else
            (ldR p3.2 4 a0 0).bind fun v5 =>
            (lnA p3.2 v5).bind fun v6 =>
            if v6 ≤ x4 then
              f_Reader_wordOf_74 (fun a0 x1 x2 x3 x4 x5 x6 h => f_Reader_wordOf_11 n a0 x1 x2 x3 x4 x5 x6 h) a0 x1 x2 x3 x4 x6 p3.2
            else
              (ldR p3.2 4 a0 0).bind fun v7 =>
              (rdA p3.2 v7 x4).bind fun v8 =>
              if v8 = p3.1 then
                f_Reader_wordOf_75 (fun a0 x1 x2 x3 x4 x5 x6 h => f_Reader_wordOf_11 n a0 x1 x2 x3 x4 x5 x6 h) a0 x1 x2 x3 x4 x6 1 p3.2
              else
                f_Reader_wordOf_74 (fun a0 x1 x2 x3 x4 x5 x6 h => f_Reader_wordOf_11 n a0 x1 x2 x3 x4 x5 x6 h) a0 x1 x2 x3 x4 x6 p3.2
theorem t_Reader_wordOf_11 {d : Nat} (hd : 4 ≤ d) : ∀ (n : Nat) (a0 : Nat) (x1 : Int32) (x2 : Int32) (x3 : Int32) (x4 : Int32) (x5 : Int32) (x6 : Int32) (h : PH) (r : Int32 × PH), f_Reader_wordOf_11 n a0 x1 x2 x3 x4 x5 x6 h = some r → E d 0 0 m_Reader_wordOf 11 [(0, .ref a0), (1, .int x1), (2, .int x2), (3, .int x3), (4, .int x4), (5, .int x5), (6, .int x6)] [] h (PI r) := by
  intro n
  induction n with
  | zero => intro a0 x1 x2 x3 x4 x5 x6 h r hq; rw [f_Reader_wordOf_11] at hq; cases hq
  | succ n ih =>
    intro a0 x1 x2 x3 x4 x5 x6 h r hq
    rw [f_Reader_wordOf_11] at hq
    obtain ⟨d, rfl⟩ : ∃ e, d = e + 1 := ⟨d - 1, by omega⟩
    refine E_il 6 d_Reader_wordOf_11 rfl ?_
    refine E_ldcS rfl d_Reader_wordOf_13 ?_
    obtain ⟨q2, eq2, hq⟩ := bd hq
    obtain ⟨p1, ep1, hq⟩ := bd hq
    refine E_cX0I d_Reader_wordOf_15 ck_Reader_95 rfl eq2 (Nat.le_of_ble_eq_true rfl) (Nat.le_of_ble_eq_true rfl) (t_Str_length (by omega) ep1) ?_
    refine E_jge (tgt := 115) d_Reader_wordOf_18 (by decide) (fun c => ?_) (fun c => ?_)
    · rw [if_pos c] at hq
      refine E_bi (v := (-2)) d_Reader_wordOf_115 (by decide) ?_
      exact E_rI d_Reader_wordOf_117 rfl hq
    · rw [if_neg c] at hq
      refine E_ldcS rfl d_Reader_wordOf_21 ?_
      refine E_il 6 d_Reader_wordOf_23 rfl ?_
      obtain ⟨q4, eq4, hq⟩ := bd hq
      obtain ⟨p3, ep3, hq⟩ := bd hq
      refine E_cX1I d_Reader_wordOf_25 ck_Reader_99 rfl eq4 (Nat.le_of_ble_eq_true rfl) (Nat.le_of_ble_eq_true rfl) (t_Str_charAt (by omega) ep3) ?_
      refine E_is (ls' := [(7, .int p3.1), (0, .ref a0), (1, .int x1), (2, .int x2), (3, .int x3), (4, .int x4), (5, .int x5), (6, .int x6)]) d_Reader_wordOf_28 (Nat.le_of_ble_eq_true rfl) rfl ?_
      refine E_il 0 d_Reader_wordOf_30 rfl ?_
      refine E_bi (v := 32) d_Reader_wordOf_32 (by decide) ?_
      refine E_jeq (tgt := 83) d_Reader_wordOf_34 (by decide) (fun c => ?_) (fun c => ?_)
      · rw [if_pos c] at hq
        refine E_il 6 d_Reader_wordOf_83 rfl ?_
        refine E_zeq (tgt := 100) d_Reader_wordOf_85 (by decide) (fun c => ?_) (fun c => ?_)
        · rw [if_pos c] at hq
          exact E_sub (ks := [1, 2, 3, 4, 7]) rfl <| t_Reader_wordOf_100 (by omega) ih hq
        · rw [if_neg c] at hq
          refine E_il 5 d_Reader_wordOf_88 rfl ?_
          refine E_iln 3 d_Reader_wordOf_90 rfl rfl ?_
          refine E_jne (tgt := 100) d_Reader_wordOf_91 (by decide) (fun c => ?_) (fun c => ?_)
          · rw [if_neg c] at hq
            exact E_sub (ks := [1, 2, 3, 4, 7]) rfl <| t_Reader_wordOf_100 (by omega) ih hq
          · rw [if_pos c] at hq
            refine E_si (v := 20000) d_Reader_wordOf_94 (by decide) ?_
            refine E_iln 4 d_Reader_wordOf_97 rfl rfl ?_
            refine E_iadd d_Reader_wordOf_98 ?_
            exact E_rI d_Reader_wordOf_99 rfl hq
      · rw [if_neg c] at hq
        refine E_il 6 d_Reader_wordOf_37 rfl ?_
        refine E_zeq (tgt := 74) d_Reader_wordOf_39 (by decide) (fun c => ?_) (fun c => ?_)
        · rw [if_pos c] at hq
          exact E_sub (ks := [1, 2, 3, 4, 5, 7]) rfl <| t_Reader_wordOf_74 (by omega) ih hq
        · rw [if_neg c] at hq
          refine E_il 5 d_Reader_wordOf_42 rfl ?_
          refine E_iln 3 d_Reader_wordOf_44 rfl rfl ?_
          refine E_jge (tgt := 74) d_Reader_wordOf_45 (by decide) (fun c => ?_) (fun c => ?_)
          · rw [if_pos c] at hq
            exact E_sub (ks := [1, 2, 3, 4, 5, 7]) rfl <| t_Reader_wordOf_74 (by omega) ih hq
          · rw [if_neg c] at hq
            refine E_il 5 d_Reader_wordOf_48 rfl ?_
            refine E_aln 1 d_Reader_wordOf_50 rfl rfl ?_
            obtain ⟨v5, ev5, hq⟩ := bd hq
            refine E_gR d_Reader_wordOf_51 lk_Reader_11 rfl ev5 ?_
            obtain ⟨v6, ev6, hq⟩ := bd hq
            refine E_ln d_Reader_wordOf_54 ev6 ?_
            refine E_jge (tgt := 74) d_Reader_wordOf_55 (by decide) (fun c => ?_) (fun c => ?_)
            · rw [if_pos c] at hq
              exact E_sub (ks := [1, 2, 3, 4, 5, 7]) rfl <| t_Reader_wordOf_74 (by omega) ih hq
            · rw [if_neg c] at hq
              refine E_aln 1 d_Reader_wordOf_58 rfl rfl ?_
              obtain ⟨v7, ev7, hq⟩ := bd hq
              refine E_gR d_Reader_wordOf_59 lk_Reader_11 rfl ev7 ?_
              refine E_il 5 d_Reader_wordOf_62 rfl ?_
              obtain ⟨v8, ev8, hq⟩ := bd hq
              refine E_ra d_Reader_wordOf_64 ev8 ?_
              refine E_il 0 d_Reader_wordOf_65 rfl ?_
              refine E_jne (tgt := 74) d_Reader_wordOf_67 (by decide) (fun c => ?_) (fun c => ?_)
              · rw [if_neg c] at hq
                exact E_sub (ks := [1, 2, 3, 4, 5, 7]) rfl <| t_Reader_wordOf_74 (by omega) ih hq
              · rw [if_pos c] at hq
                refine E_ic (v := 1) d_Reader_wordOf_70 (by decide) ?_
                refine E_goto (tgt := 75) d_Reader_wordOf_71 (by decide) ?_
                exact E_sub (ks := [1, 2, 3, 4, 5, 7]) rfl <| t_Reader_wordOf_75 (by omega) ih hq
def f_Reader_wordOf (a0 : Nat) (x1 : Int32) (x2 : Int32) (h : PH) : Option (Int32 × PH) :=
  f_Reader_wordOf_11 FU a0 x1 x2 0 x1 1 0 h
theorem t_Reader_wordOf {d : Nat} (hd : 4 ≤ d) {a0 : Nat} {x1 : Int32} {x2 : Int32} {h : PH} {r : Int32 × PH} (hq : f_Reader_wordOf a0 x1 x2 h = some r) : E d 0 0 m_Reader_wordOf 0 [(0, .ref a0), (1, .int x1), (2, .int x2)] [] h (PI r) := by
  unfold f_Reader_wordOf at hq
  obtain ⟨d, rfl⟩ : ∃ e, d = e + 1 := ⟨d - 1, by omega⟩
  refine E_ic (v := 0) d_Reader_wordOf_0 (by decide) ?_
  refine E_isn (ls' := [(3, .int 0), (0, .ref a0), (1, .int x1), (2, .int x2)]) d_Reader_wordOf_1 (Nat.le_of_ble_eq_true rfl) rfl ?_
  refine E_iln 2 d_Reader_wordOf_2 rfl rfl ?_
  refine E_is (ls' := [(4, .int x1), (3, .int 0), (0, .ref a0), (1, .int x1), (2, .int x2)]) d_Reader_wordOf_3 (Nat.le_of_ble_eq_true rfl) rfl ?_
  refine E_ic (v := 1) d_Reader_wordOf_5 (by decide) ?_
  refine E_is (ls' := [(5, .int 1), (4, .int x1), (3, .int 0), (0, .ref a0), (1, .int x1), (2, .int x2)]) d_Reader_wordOf_6 (Nat.le_of_ble_eq_true rfl) rfl ?_
  refine E_ic (v := 0) d_Reader_wordOf_8 (by decide) ?_
  refine E_is (ls' := [(6, .int 0), (5, .int 1), (4, .int x1), (3, .int 0), (0, .ref a0), (1, .int x1), (2, .int x2)]) d_Reader_wordOf_9 (Nat.le_of_ble_eq_true rfl) rfl ?_
  exact E_sub (ks := [4, 5, 6, 3, 2, 1, 0]) rfl <| t_Reader_wordOf_11 (by omega) _ _ _ _ _ _ _ _ _ _ hq
def f_Reader_numberOf_15 : Nat → Nat → Int32 → Int32 → Int32 → PH → Option (Int32 × PH)
  | 0, _, _, _, _, _ => none
  | n + 1, a0, x2, x3, x4, h =>
    if x2 ≤ x4 then
      some (x3, h)
    else
      (ldR h 4 a0 0).bind fun v1 =>
      (lnA h v1).bind fun v2 =>
      if v2 ≤ x4 then
        some (x3, h)
      else
        (ldR h 4 a0 0).bind fun v3 =>
        (rdA h v3 x4).bind fun v4 =>
        f_Reader_numberOf_15 n a0 x2 (((x3 * 10) + v4) - 48) (x4 + 1) h
theorem t_Reader_numberOf_15 {d : Nat} (hd : 0 ≤ d) : ∀ (n : Nat) (a0 : Nat) (x2 : Int32) (x3 : Int32) (x4 : Int32) (h : PH) (r : Int32 × PH), f_Reader_numberOf_15 n a0 x2 x3 x4 h = some r → E d 0 0 m_Reader_numberOf 15 [(0, .ref a0), (2, .int x2), (3, .int x3), (4, .int x4)] [] h (PI r) := by
  intro n
  induction n with
  | zero => intro a0 x2 x3 x4 h r hq; rw [f_Reader_numberOf_15] at hq; cases hq
  | succ n ih =>
    intro a0 x2 x3 x4 h r hq
    rw [f_Reader_numberOf_15] at hq
    refine E_il 3 d_Reader_numberOf_15 rfl ?_
    refine E_iln 1 d_Reader_numberOf_17 rfl rfl ?_
    refine E_jge (tgt := 53) d_Reader_numberOf_18 (by decide) (fun c => ?_) (fun c => ?_)
    · rw [if_pos c] at hq
      refine E_iln 2 d_Reader_numberOf_53 rfl rfl ?_
      exact E_rI d_Reader_numberOf_54 rfl hq
    · rw [if_neg c] at hq
      refine E_il 3 d_Reader_numberOf_21 rfl ?_
      refine E_aln 0 d_Reader_numberOf_23 rfl rfl ?_
      obtain ⟨v1, ev1, hq⟩ := bd hq
      refine E_gR d_Reader_numberOf_24 lk_Reader_11 rfl ev1 ?_
      obtain ⟨v2, ev2, hq⟩ := bd hq
      refine E_ln d_Reader_numberOf_27 ev2 ?_
      refine E_jge (tgt := 53) d_Reader_numberOf_28 (by decide) (fun c => ?_) (fun c => ?_)
      · rw [if_pos c] at hq
        refine E_iln 2 d_Reader_numberOf_53 rfl rfl ?_
        exact E_rI d_Reader_numberOf_54 rfl hq
      · rw [if_neg c] at hq
        refine E_iln 2 d_Reader_numberOf_31 rfl rfl ?_
        refine E_bi (v := 10) d_Reader_numberOf_32 (by decide) ?_
        refine E_imul d_Reader_numberOf_34 ?_
        refine E_aln 0 d_Reader_numberOf_35 rfl rfl ?_
        obtain ⟨v3, ev3, hq⟩ := bd hq
        refine E_gR d_Reader_numberOf_36 lk_Reader_11 rfl ev3 ?_
        refine E_il 3 d_Reader_numberOf_39 rfl ?_
        obtain ⟨v4, ev4, hq⟩ := bd hq
        refine E_ra d_Reader_numberOf_41 ev4 ?_
        refine E_iadd d_Reader_numberOf_42 ?_
        refine E_bi (v := 48) d_Reader_numberOf_43 (by decide) ?_
        refine E_isub d_Reader_numberOf_45 ?_
        refine E_isn (ls' := [(3, .int (((x3 * 10) + v4) - 48)), (0, .ref a0), (2, .int x2), (4, .int x4)]) d_Reader_numberOf_46 (Nat.le_of_ble_eq_true rfl) rfl ?_
        refine E_inc (v := 1) (ls' := [(4, .int (x4 + 1)), (3, .int (((x3 * 10) + v4) - 48)), (0, .ref a0), (2, .int x2)]) 3 d_Reader_numberOf_47 rfl (Nat.le_of_ble_eq_true rfl) (by decide) rfl ?_
        refine E_goto (tgt := 15) d_Reader_numberOf_50 (by decide) ?_
        exact E_sub (ks := [2, 3, 1, 0]) rfl <| ih _ _ _ _ _ _ hq
def f_Reader_numberOf (a0 : Nat) (x1 : Int32) (x2 : Int32) (h : PH) : Option (Int32 × PH) :=
  if (x2 - x1) ≤ 4 then
    f_Reader_numberOf_15 FU a0 x2 0 x1 h
  else
    some ((-2), h)
theorem t_Reader_numberOf {d : Nat} (hd : 0 ≤ d) {a0 : Nat} {x1 : Int32} {x2 : Int32} {h : PH} {r : Int32 × PH} (hq : f_Reader_numberOf a0 x1 x2 h = some r) : E d 0 0 m_Reader_numberOf 0 [(0, .ref a0), (1, .int x1), (2, .int x2)] [] h (PI r) := by
  unfold f_Reader_numberOf at hq
  refine E_iln 2 d_Reader_numberOf_0 rfl rfl ?_
  refine E_iln 1 d_Reader_numberOf_1 rfl rfl ?_
  refine E_isub d_Reader_numberOf_2 ?_
  refine E_ic (v := 4) d_Reader_numberOf_3 (by decide) ?_
  refine E_jle (tgt := 10) d_Reader_numberOf_4 (by decide) (fun c => ?_) (fun c => ?_)
  · rw [if_pos c] at hq
    refine E_ic (v := 0) d_Reader_numberOf_10 (by decide) ?_
    refine E_isn (ls' := [(3, .int 0), (0, .ref a0), (1, .int x1), (2, .int x2)]) d_Reader_numberOf_11 (Nat.le_of_ble_eq_true rfl) rfl ?_
    refine E_iln 2 d_Reader_numberOf_12 rfl rfl ?_
    refine E_is (ls' := [(4, .int x1), (3, .int 0), (0, .ref a0), (1, .int x1), (2, .int x2)]) d_Reader_numberOf_13 (Nat.le_of_ble_eq_true rfl) rfl ?_
    exact E_sub (ks := [2, 4, 1, 0]) rfl <| t_Reader_numberOf_15 (by omega) _ _ _ _ _ _ _ hq
  · rw [if_neg c] at hq
    refine E_bi (v := (-2)) d_Reader_numberOf_7 (by decide) ?_
    exact E_rI d_Reader_numberOf_9 rfl hq
def f_Reader_scan_163 (a0 : Nat) (x1 : Int32) (h : PH) : Option (PH) :=
  (ldR h 4 a0 6).bind fun v1 =>
  (wrA h v1 x1 (-1)).bind fun h2 =>
  (ldR h2 4 a0 7).bind fun v3 =>
  (ldI h2 4 a0 1).bind fun v4 =>
  (wrA h2 v3 x1 v4).bind fun h5 =>
  (stI h5 4 a0 8 0).bind fun h6 =>
  (ldR h6 4 a0 6).bind fun v7 =>
  (rdA h6 v7 0).bind fun v8 =>
  (stI h6 4 a0 9 v8).bind fun h9 =>
  some h9
theorem t_Reader_scan_163 {d : Nat} (hd : 5 ≤ d) {a0 : Nat} {x1 : Int32} {h : PH} {r : PH} (hq : f_Reader_scan_163 a0 x1 h = some r) : E d 0 0 m_Reader_scan 163 [(0, .ref a0), (1, .int x1)] [] h (PV r) := by
  unfold f_Reader_scan_163 at hq
  obtain ⟨d, rfl⟩ : ∃ e, d = e + 1 := ⟨d - 1, by omega⟩
  refine E_aln 0 d_Reader_scan_163 rfl rfl ?_
  obtain ⟨v1, ev1, hq⟩ := bd hq
  refine E_gR d_Reader_scan_164 lk_Reader_41 rfl ev1 ?_
  refine E_iln 1 d_Reader_scan_167 rfl rfl ?_
  refine E_ic (v := (-1)) d_Reader_scan_168 (by decide) ?_
  obtain ⟨h2, eh2, hq⟩ := bd hq
  refine E_wa d_Reader_scan_169 eh2 ?_
  refine E_aln 0 d_Reader_scan_170 rfl rfl ?_
  obtain ⟨v3, ev3, hq⟩ := bd hq
  refine E_gR d_Reader_scan_171 lk_Reader_44 rfl ev3 ?_
  refine E_iln 1 d_Reader_scan_174 rfl rfl ?_
  refine E_aln 0 d_Reader_scan_175 rfl rfl ?_
  obtain ⟨v4, ev4, hq⟩ := bd hq
  refine E_gI d_Reader_scan_176 lk_Reader_15 rfl ev4 ?_
  obtain ⟨h5, eh5, hq⟩ := bd hq
  refine E_wa d_Reader_scan_179 eh5 ?_
  refine E_aln 0 d_Reader_scan_180 rfl rfl ?_
  refine E_ic (v := 0) d_Reader_scan_181 (by decide) ?_
  obtain ⟨h6, eh6, hq⟩ := bd hq
  refine E_pI d_Reader_scan_182 lp_Reader_m_47 rfl eh6 ?_
  refine E_aln 0 d_Reader_scan_185 rfl rfl ?_
  refine E_aln 0 d_Reader_scan_186 rfl rfl ?_
  obtain ⟨v7, ev7, hq⟩ := bd hq
  refine E_gR d_Reader_scan_187 lk_Reader_41 rfl ev7 ?_
  refine E_ic (v := 0) d_Reader_scan_190 (by decide) ?_
  obtain ⟨v8, ev8, hq⟩ := bd hq
  refine E_ra d_Reader_scan_191 ev8 ?_
  obtain ⟨h9, eh9, hq⟩ := bd hq
  refine E_pI d_Reader_scan_192 lp_Reader_m_50 rfl eh9 ?_
  exact E_rV d_Reader_scan_195 rfl hq
def f_Reader_scan_157 (k4 : Nat → Int32 → Int32 → PH → Option (PH)) (a0 : Nat) (x1 : Int32) (x4 : Int32) (h : PH) : Option (PH) :=
  k4 a0 x1 x4 h
theorem t_Reader_scan_157 {d : Nat} (hd : 5 ≤ d) {k4 : Nat → Int32 → Int32 → PH → Option (PH)} (hk4 : ∀ (a0 : Nat) (x1 : Int32) (x2 : Int32) (h : PH) (r : PH), k4 a0 x1 x2 h = some r → E d 0 0 m_Reader_scan 4 [(0, .ref a0), (1, .int x1), (2, .int x2)] [] h (PV r)) {a0 : Nat} {x1 : Int32} {x4 : Int32} {h : PH} {r : PH} (hq : f_Reader_scan_157 k4 a0 x1 x4 h = some r) : E d 0 0 m_Reader_scan 157 [(0, .ref a0), (1, .int x1), (4, .int x4)] [] h (PV r) := by
  unfold f_Reader_scan_157 at hq
  obtain ⟨d, rfl⟩ : ∃ e, d = e + 1 := ⟨d - 1, by omega⟩
  refine E_il 2 d_Reader_scan_157 rfl ?_
  refine E_isn (ls' := [(2, .int x4), (0, .ref a0), (1, .int x1), (4, .int x4)]) d_Reader_scan_159 (Nat.le_of_ble_eq_true rfl) rfl ?_
  refine E_goto (tgt := 4) d_Reader_scan_160 (by decide) ?_
  exact E_sub (ks := [1, 2, 0]) rfl <| hk4 _ _ _ _ _ hq
def f_Reader_scan_146 (k4 : Nat → Int32 → Int32 → PH → Option (PH)) (a0 : Nat) (x1 : Int32) (x2 : Int32) (x4 : Int32) (s0 : Int32) (s1 : Int32) (s2 : Nat) (h : PH) : Option (PH) :=
  (wrA h s2 s1 s0).bind fun h1 =>
  (ldR h1 4 a0 7).bind fun v2 =>
  (wrA h1 v2 x1 x2).bind fun h3 =>
  f_Reader_scan_157 k4 a0 (x1 + 1) x4 h3
theorem t_Reader_scan_146 {d : Nat} (hd : 5 ≤ d) {k4 : Nat → Int32 → Int32 → PH → Option (PH)} (hk4 : ∀ (a0 : Nat) (x1 : Int32) (x2 : Int32) (h : PH) (r : PH), k4 a0 x1 x2 h = some r → E d 0 0 m_Reader_scan 4 [(0, .ref a0), (1, .int x1), (2, .int x2)] [] h (PV r)) {a0 : Nat} {x1 : Int32} {x2 : Int32} {x4 : Int32} {s0 : Int32} {s1 : Int32} {s2 : Nat} {h : PH} {r : PH} (hq : f_Reader_scan_146 k4 a0 x1 x2 x4 s0 s1 s2 h = some r) : E d 0 0 m_Reader_scan 146 [(0, .ref a0), (1, .int x1), (2, .int x2), (4, .int x4)] [.int s0, .int s1, .ref s2] h (PV r) := by
  unfold f_Reader_scan_146 at hq
  obtain ⟨d, rfl⟩ : ∃ e, d = e + 1 := ⟨d - 1, by omega⟩
  obtain ⟨h1, eh1, hq⟩ := bd hq
  refine E_wa d_Reader_scan_146 eh1 ?_
  refine E_aln 0 d_Reader_scan_147 rfl rfl ?_
  obtain ⟨v2, ev2, hq⟩ := bd hq
  refine E_gR d_Reader_scan_148 lk_Reader_44 rfl ev2 ?_
  refine E_iln 1 d_Reader_scan_151 rfl rfl ?_
  refine E_iln 2 d_Reader_scan_152 rfl rfl ?_
  obtain ⟨h3, eh3, hq⟩ := bd hq
  refine E_wa d_Reader_scan_153 eh3 ?_
  refine E_inc (v := 1) (ls' := [(1, .int (x1 + 1)), (0, .ref a0), (2, .int x2), (4, .int x4)]) 1 d_Reader_scan_154 rfl (Nat.le_of_ble_eq_true rfl) (by decide) rfl ?_
  exact E_sub (ks := [1, 0, 3]) rfl <| t_Reader_scan_157 (by omega) hk4 hq
def f_Reader_scan_106 (k4 : Nat → Int32 → Int32 → PH → Option (PH)) (a0 : Nat) (x1 : Int32) (x2 : Int32) (x3 : Int32) (x4 : Int32) (x5 : Int32) (x6 : Int32) (h : PH) : Option (PH) :=
  (ldR h 4 a0 6).bind fun v1 =>
  if x5 = 0 then
    if x6 = 0 then
      f_Reader_scan_146 k4 a0 x1 x2 x4 (10000 + x3) x1 v1 h
    else
      (isO h 4 a0).bind fun _ =>
      (f_Reader_numberOf a0 x2 x4 h).bind fun p2 =>
      f_Reader_scan_146 k4 a0 x1 x2 x4 p2.1 x1 v1 p2.2
  else
    (isO h 4 a0).bind fun _ =>
    (f_Reader_wordOf a0 x2 x4 h).bind fun p4 =>
    f_Reader_scan_146 k4 a0 x1 x2 x4 p4.1 x1 v1 p4.2
theorem t_Reader_scan_106 {d : Nat} (hd : 5 ≤ d) {k4 : Nat → Int32 → Int32 → PH → Option (PH)} (hk4 : ∀ (a0 : Nat) (x1 : Int32) (x2 : Int32) (h : PH) (r : PH), k4 a0 x1 x2 h = some r → E d 0 0 m_Reader_scan 4 [(0, .ref a0), (1, .int x1), (2, .int x2)] [] h (PV r)) {a0 : Nat} {x1 : Int32} {x2 : Int32} {x3 : Int32} {x4 : Int32} {x5 : Int32} {x6 : Int32} {h : PH} {r : PH} (hq : f_Reader_scan_106 k4 a0 x1 x2 x3 x4 x5 x6 h = some r) : E d 0 0 m_Reader_scan 106 [(0, .ref a0), (1, .int x1), (2, .int x2), (3, .int x3), (4, .int x4), (5, .int x5), (6, .int x6)] [] h (PV r) := by
  unfold f_Reader_scan_106 at hq
  obtain ⟨d, rfl⟩ : ∃ e, d = e + 1 := ⟨d - 1, by omega⟩
  refine E_aln 0 d_Reader_scan_106 rfl rfl ?_
  obtain ⟨v1, ev1, hq⟩ := bd hq
  refine E_gR d_Reader_scan_107 lk_Reader_41 rfl ev1 ?_
  refine E_iln 1 d_Reader_scan_110 rfl rfl ?_
  refine E_il 5 d_Reader_scan_111 rfl ?_
  refine E_zeq (tgt := 126) d_Reader_scan_113 (by decide) (fun c => ?_) (fun c => ?_)
  · rw [if_pos c] at hq
    refine E_il 6 d_Reader_scan_126 rfl ?_
    refine E_zeq (tgt := 141) d_Reader_scan_128 (by decide) (fun c => ?_) (fun c => ?_)
    · rw [if_pos c] at hq
      refine E_si (v := 10000) d_Reader_scan_141 (by decide) ?_
      refine E_iln 3 d_Reader_scan_144 rfl rfl ?_
      refine E_iadd d_Reader_scan_145 ?_
      exact E_sub (ks := [0, 1, 2, 4]) rfl <| t_Reader_scan_146 (by omega) hk4 hq
    · rw [if_neg c] at hq
      refine E_aln 0 d_Reader_scan_131 rfl rfl ?_
      refine E_iln 2 d_Reader_scan_132 rfl rfl ?_
      refine E_il 4 d_Reader_scan_133 rfl ?_
      obtain ⟨q3, eq3, hq⟩ := bd hq
      obtain ⟨p2, ep2, hq⟩ := bd hq
      refine E_cV2I d_Reader_scan_135 ck_Reader_90 rfl rfl eq3 (Nat.le_of_ble_eq_true rfl) (Nat.le_of_ble_eq_true rfl) (t_Reader_numberOf (by omega) ep2) ?_
      refine E_goto (tgt := 146) d_Reader_scan_138 (by decide) ?_
      exact E_sub (ks := [0, 1, 2, 4]) rfl <| t_Reader_scan_146 (by omega) hk4 hq
  · rw [if_neg c] at hq
    refine E_aln 0 d_Reader_scan_116 rfl rfl ?_
    refine E_iln 2 d_Reader_scan_117 rfl rfl ?_
    refine E_il 4 d_Reader_scan_118 rfl ?_
    obtain ⟨q5, eq5, hq⟩ := bd hq
    obtain ⟨p4, ep4, hq⟩ := bd hq
    refine E_cV2I d_Reader_scan_120 ck_Reader_86 rfl rfl eq5 (Nat.le_of_ble_eq_true rfl) (Nat.le_of_ble_eq_true rfl) (t_Reader_wordOf (by omega) ep4) ?_
    refine E_goto (tgt := 146) d_Reader_scan_123 (by decide) ?_
    exact E_sub (ks := [0, 1, 2, 4]) rfl <| t_Reader_scan_146 (by omega) hk4 hq
def f_Reader_scan_82 (k4 : Nat → Int32 → Int32 → PH → Option (PH)) (k55 : Nat → Int32 → Int32 → Int32 → Int32 → Int32 → Int32 → PH → Option (PH)) (a0 : Nat) (x1 : Int32) (x2 : Int32) (x3 : Int32) (x4 : Int32) (x5 : Int32) (x6 : Int32) (h : PH) : Option (PH) :=
  if x6 = 0 then
    f_Reader_scan_106 k4 a0 x1 x2 x3 x4 x5 x6 h
  else
    (ldR h 4 a0 0).bind fun v1 =>
    (rdA h v1 x4).bind fun v2 =>
    (f_Reader_isDigit v2 h).bind fun p3 =>
    if p3.1 = 0 then
      f_Reader_scan_106 k4 a0 x1 x2 x3 x4 x5 x6 p3.2
    else
      k55 a0 x1 x2 x3 (x4 + 1) x5 x6 p3.2
theorem t_Reader_scan_82 {d : Nat} (hd : 5 ≤ d) {k4 : Nat → Int32 → Int32 → PH → Option (PH)} (hk4 : ∀ (a0 : Nat) (x1 : Int32) (x2 : Int32) (h : PH) (r : PH), k4 a0 x1 x2 h = some r → E d 0 0 m_Reader_scan 4 [(0, .ref a0), (1, .int x1), (2, .int x2)] [] h (PV r)) {k55 : Nat → Int32 → Int32 → Int32 → Int32 → Int32 → Int32 → PH → Option (PH)} (hk55 : ∀ (a0 : Nat) (x1 : Int32) (x2 : Int32) (x3 : Int32) (x4 : Int32) (x5 : Int32) (x6 : Int32) (h : PH) (r : PH), k55 a0 x1 x2 x3 x4 x5 x6 h = some r → E d 0 0 m_Reader_scan 55 [(0, .ref a0), (1, .int x1), (2, .int x2), (3, .int x3), (4, .int x4), (5, .int x5), (6, .int x6)] [] h (PV r)) {a0 : Nat} {x1 : Int32} {x2 : Int32} {x3 : Int32} {x4 : Int32} {x5 : Int32} {x6 : Int32} {h : PH} {r : PH} (hq : f_Reader_scan_82 k4 k55 a0 x1 x2 x3 x4 x5 x6 h = some r) : E d 0 0 m_Reader_scan 82 [(0, .ref a0), (1, .int x1), (2, .int x2), (3, .int x3), (4, .int x4), (5, .int x5), (6, .int x6)] [] h (PV r) := by
  unfold f_Reader_scan_82 at hq
  obtain ⟨d, rfl⟩ : ∃ e, d = e + 1 := ⟨d - 1, by omega⟩
  refine E_il 6 d_Reader_scan_82 rfl ?_
  refine E_zeq (tgt := 106) d_Reader_scan_84 (by decide) (fun c => ?_) (fun c => ?_)
  · rw [if_pos c] at hq
    exact t_Reader_scan_106 (by omega) hk4 hq
  · rw [if_neg c] at hq
    refine E_aln 0 d_Reader_scan_87 rfl rfl ?_
    obtain ⟨v1, ev1, hq⟩ := bd hq
    refine E_gR d_Reader_scan_88 lk_Reader_11 rfl ev1 ?_
    refine E_il 4 d_Reader_scan_91 rfl ?_
    obtain ⟨v2, ev2, hq⟩ := bd hq
    refine E_ra d_Reader_scan_93 ev2 ?_
    obtain ⟨p3, ep3, hq⟩ := bd hq
    refine E_cS1I d_Reader_scan_94 ck_Reader_83 (Nat.le_of_ble_eq_true rfl) (Nat.le_of_ble_eq_true rfl) (t_Reader_isDigit (by omega) ep3) ?_
    refine E_zeq (tgt := 106) d_Reader_scan_97 (by decide) (fun c => ?_) (fun c => ?_)
    · rw [if_pos c] at hq
      exact t_Reader_scan_106 (by omega) hk4 hq
    · rw [if_neg c] at hq
      refine E_inc (v := 1) (ls' := [(4, .int (x4 + 1)), (0, .ref a0), (1, .int x1), (2, .int x2), (3, .int x3), (5, .int x5), (6, .int x6)]) 4 d_Reader_scan_100 rfl (Nat.le_of_ble_eq_true rfl) (by decide) rfl ?_
      refine E_goto (tgt := 55) d_Reader_scan_103 (by decide) ?_
      exact E_sub (ks := [1, 2, 3, 4, 0, 5, 6]) rfl <| hk55 _ _ _ _ _ _ _ _ _ hq
def f_Reader_scan_55 (k4 : Nat → Int32 → Int32 → PH → Option (PH)) : Nat → Nat → Int32 → Int32 → Int32 → Int32 → Int32 → Int32 → PH → Option (PH)
  | 0, _, _, _, _, _, _, _, _ => none
  | n + 1, a0, x1, x2, x3, x4, x5, x6, h =>
    (ldI h 4 a0 1).bind fun v1 =>
    if v1 ≤ x4 then
      f_Reader_scan_106 k4 a0 x1 x2 x3 x4 x5 x6 h
    else
      if x5 = 0 then
        f_Reader_scan_82 k4 (fun a0 x1 x2 x3 x4 x5 x6 h => f_Reader_scan_55 k4 n a0 x1 x2 x3 x4 x5 x6 h) a0 x1 x2 x3 x4 x5 x6 h
      else
        (ldR h 4 a0 0).bind fun v2 =>
        (rdA h v2 x4).bind fun v3 =>
        (f_Reader_isLetter v3 h).bind fun p4 =>
        if p4.1 = 0 then
          f_Reader_scan_82 k4 (fun a0 x1 x2 x3 x4 x5 x6 h => f_Reader_scan_55 k4 n a0 x1 x2 x3 x4 x5 x6 h) a0 x1 x2 x3 x4 x5 x6 p4.2
        else
          f_Reader_scan_55 k4 n a0 x1 x2 x3 (x4 + 1) x5 x6 p4.2
theorem t_Reader_scan_55 {d : Nat} (hd : 5 ≤ d) {k4 : Nat → Int32 → Int32 → PH → Option (PH)} (hk4 : ∀ (a0 : Nat) (x1 : Int32) (x2 : Int32) (h : PH) (r : PH), k4 a0 x1 x2 h = some r → E d 0 0 m_Reader_scan 4 [(0, .ref a0), (1, .int x1), (2, .int x2)] [] h (PV r)) : ∀ (n : Nat) (a0 : Nat) (x1 : Int32) (x2 : Int32) (x3 : Int32) (x4 : Int32) (x5 : Int32) (x6 : Int32) (h : PH) (r : PH), f_Reader_scan_55 k4 n a0 x1 x2 x3 x4 x5 x6 h = some r → E d 0 0 m_Reader_scan 55 [(0, .ref a0), (1, .int x1), (2, .int x2), (3, .int x3), (4, .int x4), (5, .int x5), (6, .int x6)] [] h (PV r) := by
  intro n
  induction n with
  | zero => intro a0 x1 x2 x3 x4 x5 x6 h r hq; rw [f_Reader_scan_55] at hq; cases hq
  | succ n ih =>
    intro a0 x1 x2 x3 x4 x5 x6 h r hq
    rw [f_Reader_scan_55] at hq
    obtain ⟨d, rfl⟩ : ∃ e, d = e + 1 := ⟨d - 1, by omega⟩
    refine E_il 4 d_Reader_scan_55 rfl ?_
    refine E_aln 0 d_Reader_scan_57 rfl rfl ?_
    obtain ⟨v1, ev1, hq⟩ := bd hq
    refine E_gI d_Reader_scan_58 lk_Reader_15 rfl ev1 ?_
    refine E_jge (tgt := 106) d_Reader_scan_61 (by decide) (fun c => ?_) (fun c => ?_)
    · rw [if_pos c] at hq
      exact t_Reader_scan_106 (by omega) hk4 hq
    · rw [if_neg c] at hq
      refine E_il 5 d_Reader_scan_64 rfl ?_
      refine E_zeq (tgt := 82) d_Reader_scan_66 (by decide) (fun c => ?_) (fun c => ?_)
      · rw [if_pos c] at hq
        exact t_Reader_scan_82 (by omega) hk4 ih hq
      · rw [if_neg c] at hq
        refine E_aln 0 d_Reader_scan_69 rfl rfl ?_
        obtain ⟨v2, ev2, hq⟩ := bd hq
        refine E_gR d_Reader_scan_70 lk_Reader_11 rfl ev2 ?_
        refine E_il 4 d_Reader_scan_73 rfl ?_
        obtain ⟨v3, ev3, hq⟩ := bd hq
        refine E_ra d_Reader_scan_75 ev3 ?_
        obtain ⟨p4, ep4, hq⟩ := bd hq
        refine E_cS1I d_Reader_scan_76 ck_Reader_80 (Nat.le_of_ble_eq_true rfl) (Nat.le_of_ble_eq_true rfl) (t_Reader_isLetter (by omega) ep4) ?_
        refine E_zne (tgt := 100) d_Reader_scan_79 (by decide) (fun c => ?_) (fun c => ?_)
        · rw [if_neg c] at hq
          refine E_inc (v := 1) (ls' := [(4, .int (x4 + 1)), (0, .ref a0), (1, .int x1), (2, .int x2), (3, .int x3), (5, .int x5), (6, .int x6)]) 4 d_Reader_scan_100 rfl (Nat.le_of_ble_eq_true rfl) (by decide) rfl ?_
          refine E_goto (tgt := 55) d_Reader_scan_103 (by decide) ?_
          exact E_sub (ks := [1, 2, 3, 4, 0, 5, 6]) rfl <| ih _ _ _ _ _ _ _ _ _ hq
        · rw [if_pos c] at hq
          exact t_Reader_scan_82 (by omega) hk4 ih hq
def f_Reader_scan_4 : Nat → Nat → Int32 → Int32 → PH → Option (PH)
  | 0, _, _, _, _ => none
  | n + 1, a0, x1, x2, h =>
    (ldI h 4 a0 1).bind fun v1 =>
    if v1 ≤ x2 then
      f_Reader_scan_163 a0 x1 h
    else
      if 400 ≤ x1 then
        f_Reader_scan_163 a0 x1 h
      else
        (ldR h 4 a0 0).bind fun v2 =>
        (rdA h v2 x2).bind fun v3 =>
        if v3 = 32 then
          f_Reader_scan_157 (fun a0 x1 x2 h => f_Reader_scan_4 n a0 x1 x2 h) a0 x1 (x2 + 1) h
        else
          if v3 = 10 then
            f_Reader_scan_157 (fun a0 x1 x2 h => f_Reader_scan_4 n a0 x1 x2 h) a0 x1 (x2 + 1) h
          else
            (f_Reader_isLetter v3 h).bind fun p4 =>
            (f_Reader_isDigit v3 p4.2).bind fun p5 =>
            f_Reader_scan_55 (fun a0 x1 x2 h => f_Reader_scan_4 n a0 x1 x2 h) FU a0 x1 x2 v3 (x2 + 1) p4.1 p5.1 p5.2
theorem t_Reader_scan_4 {d : Nat} (hd : 5 ≤ d) : ∀ (n : Nat) (a0 : Nat) (x1 : Int32) (x2 : Int32) (h : PH) (r : PH), f_Reader_scan_4 n a0 x1 x2 h = some r → E d 0 0 m_Reader_scan 4 [(0, .ref a0), (1, .int x1), (2, .int x2)] [] h (PV r) := by
  intro n
  induction n with
  | zero => intro a0 x1 x2 h r hq; rw [f_Reader_scan_4] at hq; cases hq
  | succ n ih =>
    intro a0 x1 x2 h r hq
    rw [f_Reader_scan_4] at hq
    obtain ⟨d, rfl⟩ : ∃ e, d = e + 1 := ⟨d - 1, by omega⟩
    refine E_iln 2 d_Reader_scan_4 rfl rfl ?_
    refine E_aln 0 d_Reader_scan_5 rfl rfl ?_
    obtain ⟨v1, ev1, hq⟩ := bd hq
    refine E_gI d_Reader_scan_6 lk_Reader_15 rfl ev1 ?_
    refine E_jge (tgt := 163) d_Reader_scan_9 (by decide) (fun c => ?_) (fun c => ?_)
    · rw [if_pos c] at hq
      exact E_sub (ks := [0, 1]) rfl <| t_Reader_scan_163 (by omega) hq
    · rw [if_neg c] at hq
      refine E_iln 1 d_Reader_scan_12 rfl rfl ?_
      refine E_si (v := 400) d_Reader_scan_13 (by decide) ?_
      refine E_jge (tgt := 163) d_Reader_scan_16 (by decide) (fun c => ?_) (fun c => ?_)
      · rw [if_pos c] at hq
        exact E_sub (ks := [0, 1]) rfl <| t_Reader_scan_163 (by omega) hq
      · rw [if_neg c] at hq
        refine E_aln 0 d_Reader_scan_19 rfl rfl ?_
        obtain ⟨v2, ev2, hq⟩ := bd hq
        refine E_gR d_Reader_scan_20 lk_Reader_11 rfl ev2 ?_
        refine E_iln 2 d_Reader_scan_23 rfl rfl ?_
        obtain ⟨v3, ev3, hq⟩ := bd hq
        refine E_ra d_Reader_scan_24 ev3 ?_
        refine E_isn (ls' := [(3, .int v3), (0, .ref a0), (1, .int x1), (2, .int x2)]) d_Reader_scan_25 (Nat.le_of_ble_eq_true rfl) rfl ?_
        refine E_iln 3 d_Reader_scan_26 rfl rfl ?_
        refine E_ic (v := 1) d_Reader_scan_27 (by decide) ?_
        refine E_iadd d_Reader_scan_28 ?_
        refine E_is (ls' := [(4, .int (x2 + 1)), (3, .int v3), (0, .ref a0), (1, .int x1), (2, .int x2)]) d_Reader_scan_29 (Nat.le_of_ble_eq_true rfl) rfl ?_
        refine E_iln 1 d_Reader_scan_31 rfl rfl ?_
        refine E_bi (v := 32) d_Reader_scan_32 (by decide) ?_
        refine E_jeq (tgt := 157) d_Reader_scan_34 (by decide) (fun c => ?_) (fun c => ?_)
        · rw [if_pos c] at hq
          exact E_sub (ks := [2, 3, 0]) rfl <| t_Reader_scan_157 (by omega) ih hq
        · rw [if_neg c] at hq
          refine E_iln 1 d_Reader_scan_37 rfl rfl ?_
          refine E_bi (v := 10) d_Reader_scan_38 (by decide) ?_
          refine E_jeq (tgt := 157) d_Reader_scan_40 (by decide) (fun c => ?_) (fun c => ?_)
          · rw [if_pos c] at hq
            exact E_sub (ks := [2, 3, 0]) rfl <| t_Reader_scan_157 (by omega) ih hq
          · rw [if_neg c] at hq
            refine E_iln 1 d_Reader_scan_43 rfl rfl ?_
            obtain ⟨p4, ep4, hq⟩ := bd hq
            refine E_cS1I d_Reader_scan_44 ck_Reader_80 (Nat.le_of_ble_eq_true rfl) (Nat.le_of_ble_eq_true rfl) (t_Reader_isLetter (by omega) ep4) ?_
            refine E_is (ls' := [(5, .int p4.1), (4, .int (x2 + 1)), (3, .int v3), (0, .ref a0), (1, .int x1), (2, .int x2)]) d_Reader_scan_47 (Nat.le_of_ble_eq_true rfl) rfl ?_
            refine E_iln 2 d_Reader_scan_49 rfl rfl ?_
            obtain ⟨p5, ep5, hq⟩ := bd hq
            refine E_cS1I d_Reader_scan_50 ck_Reader_83 (Nat.le_of_ble_eq_true rfl) (Nat.le_of_ble_eq_true rfl) (t_Reader_isDigit (by omega) ep5) ?_
            refine E_is (ls' := [(6, .int p5.1), (5, .int p4.1), (4, .int (x2 + 1)), (3, .int v3), (0, .ref a0), (1, .int x1), (2, .int x2)]) d_Reader_scan_53 (Nat.le_of_ble_eq_true rfl) rfl ?_
            exact E_sub (ks := [4, 5, 6, 3, 2, 1, 0]) rfl <| t_Reader_scan_55 (by omega) ih _ _ _ _ _ _ _ _ _ _ hq
def f_Reader_scan (a0 : Nat) (h : PH) : Option (PH) :=
  f_Reader_scan_4 FU a0 0 0 h
theorem t_Reader_scan {d : Nat} (hd : 5 ≤ d) {a0 : Nat} {h : PH} {r : PH} (hq : f_Reader_scan a0 h = some r) : E d 0 0 m_Reader_scan 0 [(0, .ref a0)] [] h (PV r) := by
  unfold f_Reader_scan at hq
  obtain ⟨d, rfl⟩ : ∃ e, d = e + 1 := ⟨d - 1, by omega⟩
  refine E_ic (v := 0) d_Reader_scan_0 (by decide) ?_
  refine E_isn (ls' := [(1, .int 0), (0, .ref a0)]) d_Reader_scan_1 (Nat.le_of_ble_eq_true rfl) rfl ?_
  refine E_ic (v := 0) d_Reader_scan_2 (by decide) ?_
  refine E_isn (ls' := [(2, .int 0), (1, .int 0), (0, .ref a0)]) d_Reader_scan_3 (Nat.le_of_ble_eq_true rfl) rfl ?_
  exact E_sub (ks := [2, 1, 0]) rfl <| t_Reader_scan_4 (by omega) _ _ _ _ _ _ hq
def f_Row_clear (a0 : Nat) (h : PH) : Option (Int32 × PH) :=
  (stI h 6 a0 2 0).bind fun h1 =>
  some (0, h1)
theorem t_Row_clear {d : Nat} (hd : 0 ≤ d) {a0 : Nat} {h : PH} {r : Int32 × PH} (hq : f_Row_clear a0 h = some r) : E d 0 0 m_Row_clear 0 [(0, .ref a0)] [] h (PI r) := by
  unfold f_Row_clear at hq
  refine E_aln 0 d_Row_clear_0 rfl rfl ?_
  refine E_ic (v := 0) d_Row_clear_1 (by decide) ?_
  obtain ⟨h1, eh1, hq⟩ := bd hq
  refine E_pI d_Row_clear_2 lp_Row_m_9 rfl eh1 ?_
  refine E_ic (v := 0) d_Row_clear_5 (by decide) ?_
  exact E_rI d_Row_clear_6 rfl hq
def f_Law_clear (a0 : Nat) (h : PH) : Option (PH) :=
  (ldR h 2 a0 0).bind fun v1 =>
  (isO h 6 v1).bind fun _ =>
  (f_Row_clear v1  h).bind fun p2 =>
  (stI p2.2 2 a0 2 0).bind fun h4 =>
  some h4
theorem t_Law_clear {d : Nat} (hd : 1 ≤ d) {a0 : Nat} {h : PH} {r : PH} (hq : f_Law_clear a0 h = some r) : E d 0 0 m_Law_clear 0 [(0, .ref a0)] [] h (PV r) := by
  unfold f_Law_clear at hq
  obtain ⟨d, rfl⟩ : ∃ e, d = e + 1 := ⟨d - 1, by omega⟩
  refine E_aln 0 d_Law_clear_0 rfl rfl ?_
  obtain ⟨v1, ev1, hq⟩ := bd hq
  refine E_gR d_Law_clear_1 lk_Law_14 rfl ev1 ?_
  obtain ⟨q3, eq3, hq⟩ := bd hq
  obtain ⟨p2, ep2, hq⟩ := bd hq
  refine E_cV0I d_Law_clear_4 ck_Law_34 rfl rfl eq3 (Nat.le_of_ble_eq_true rfl) (Nat.le_of_ble_eq_true rfl) (t_Row_clear (by omega) ep2) ?_
  refine E_popi d_Law_clear_7 ?_
  refine E_aln 0 d_Law_clear_8 rfl rfl ?_
  refine E_ic (v := 0) d_Law_clear_9 (by decide) ?_
  obtain ⟨h4, eh4, hq⟩ := bd hq
  refine E_pI d_Law_clear_10 lp_Law_m_24 rfl eh4 ?_
  exact E_rV d_Law_clear_13 rfl hq
def f_Reader_fail_34 (s0 : Int32) (s1 : Nat) (h : PH) : Option (Int32 × PH) :=
  (stI h 4 s1 3 s0).bind fun h1 =>
  rtZ 0 h1
theorem t_Reader_fail_34 {d : Nat} (hd : 0 ≤ d) {s0 : Int32} {s1 : Nat} {h : PH} {r : Int32 × PH} (hq : f_Reader_fail_34 s0 s1 h = some r) : E d 0 0 m_Reader_fail 34 [] [.int s0, .ref s1] h (PI r) := by
  unfold f_Reader_fail_34 at hq
  obtain ⟨h1, eh1, hq⟩ := bd hq
  refine E_pI d_Reader_fail_34 lp_Reader_m_22 rfl eh1 ?_
  refine E_ic (v := 0) d_Reader_fail_37 (by decide) ?_
  exact E_rZ d_Reader_fail_38 rfl hq
def f_Reader_fail (a0 : Nat) (x1 : Int32) (h : PH) : Option (Int32 × PH) :=
  (stI h 4 a0 2 x1).bind fun h1 =>
  (ldI h1 4 a0 8).bind fun v2 =>
  (ldR h1 4 a0 7).bind fun v3 =>
  (lnA h1 v3).bind fun v4 =>
  if v4 ≤ v2 then
    (ldI h1 4 a0 1).bind fun v5 =>
    f_Reader_fail_34 v5 a0 h1
  else
    (ldR h1 4 a0 7).bind fun v6 =>
    (ldI h1 4 a0 8).bind fun v7 =>
    (rdA h1 v6 v7).bind fun v8 =>
    f_Reader_fail_34 v8 a0 h1
theorem t_Reader_fail {d : Nat} (hd : 0 ≤ d) {a0 : Nat} {x1 : Int32} {h : PH} {r : Int32 × PH} (hq : f_Reader_fail a0 x1 h = some r) : E d 0 0 m_Reader_fail 0 [(0, .ref a0), (1, .int x1)] [] h (PI r) := by
  unfold f_Reader_fail at hq
  refine E_aln 0 d_Reader_fail_0 rfl rfl ?_
  refine E_iln 1 d_Reader_fail_1 rfl rfl ?_
  obtain ⟨h1, eh1, hq⟩ := bd hq
  refine E_pI d_Reader_fail_2 lp_Reader_m_19 rfl eh1 ?_
  refine E_aln 0 d_Reader_fail_5 rfl rfl ?_
  refine E_aln 0 d_Reader_fail_6 rfl rfl ?_
  obtain ⟨v2, ev2, hq⟩ := bd hq
  refine E_gI d_Reader_fail_7 lk_Reader_47 rfl ev2 ?_
  refine E_aln 0 d_Reader_fail_10 rfl rfl ?_
  obtain ⟨v3, ev3, hq⟩ := bd hq
  refine E_gR d_Reader_fail_11 lk_Reader_44 rfl ev3 ?_
  obtain ⟨v4, ev4, hq⟩ := bd hq
  refine E_ln d_Reader_fail_14 ev4 ?_
  refine E_jge (tgt := 30) d_Reader_fail_15 (by decide) (fun c => ?_) (fun c => ?_)
  · rw [if_pos c] at hq
    refine E_aln 0 d_Reader_fail_30 rfl rfl ?_
    obtain ⟨v5, ev5, hq⟩ := bd hq
    refine E_gI d_Reader_fail_31 lk_Reader_15 rfl ev5 ?_
    exact E_sub (ks := []) rfl <| t_Reader_fail_34 (by omega) hq
  · rw [if_neg c] at hq
    refine E_aln 0 d_Reader_fail_18 rfl rfl ?_
    obtain ⟨v6, ev6, hq⟩ := bd hq
    refine E_gR d_Reader_fail_19 lk_Reader_44 rfl ev6 ?_
    refine E_aln 0 d_Reader_fail_22 rfl rfl ?_
    obtain ⟨v7, ev7, hq⟩ := bd hq
    refine E_gI d_Reader_fail_23 lk_Reader_47 rfl ev7 ?_
    obtain ⟨v8, ev8, hq⟩ := bd hq
    refine E_ra d_Reader_fail_26 ev8 ?_
    refine E_goto (tgt := 34) d_Reader_fail_27 (by decide) ?_
    exact E_sub (ks := []) rfl <| t_Reader_fail_34 (by omega) hq
def f_Reader_advance (a0 : Nat) (h : PH) : Option (PH) :=
  (ldI h 4 a0 9).bind fun v1 =>
  if v1 = (-1) then
    some h
  else
    (ldI h 4 a0 8).bind fun v2 =>
    (ldR h 4 a0 6).bind fun v3 =>
    (lnA h v3).bind fun v4 =>
    if v4 ≤ (v2 + 1) then
      some h
    else
      (ldI h 4 a0 8).bind fun v5 =>
      (stI h 4 a0 8 (v5 + 1)).bind fun h6 =>
      (ldR h6 4 a0 6).bind fun v7 =>
      (ldI h6 4 a0 8).bind fun v8 =>
      (rdA h6 v7 v8).bind fun v9 =>
      (stI h6 4 a0 9 v9).bind fun h10 =>
      some h10
theorem t_Reader_advance {d : Nat} (hd : 0 ≤ d) {a0 : Nat} {h : PH} {r : PH} (hq : f_Reader_advance a0 h = some r) : E d 0 0 m_Reader_advance 0 [(0, .ref a0)] [] h (PV r) := by
  unfold f_Reader_advance at hq
  refine E_aln 0 d_Reader_advance_0 rfl rfl ?_
  obtain ⟨v1, ev1, hq⟩ := bd hq
  refine E_gI d_Reader_advance_1 lk_Reader_50 rfl ev1 ?_
  refine E_ic (v := (-1)) d_Reader_advance_4 (by decide) ?_
  refine E_jeq (tgt := 45) d_Reader_advance_5 (by decide) (fun c => ?_) (fun c => ?_)
  · rw [if_pos c] at hq
    exact E_rV d_Reader_advance_45 rfl hq
  · rw [if_neg c] at hq
    refine E_aln 0 d_Reader_advance_8 rfl rfl ?_
    obtain ⟨v2, ev2, hq⟩ := bd hq
    refine E_gI d_Reader_advance_9 lk_Reader_47 rfl ev2 ?_
    refine E_ic (v := 1) d_Reader_advance_12 (by decide) ?_
    refine E_iadd d_Reader_advance_13 ?_
    refine E_aln 0 d_Reader_advance_14 rfl rfl ?_
    obtain ⟨v3, ev3, hq⟩ := bd hq
    refine E_gR d_Reader_advance_15 lk_Reader_41 rfl ev3 ?_
    obtain ⟨v4, ev4, hq⟩ := bd hq
    refine E_ln d_Reader_advance_18 ev4 ?_
    refine E_jge (tgt := 45) d_Reader_advance_19 (by decide) (fun c => ?_) (fun c => ?_)
    · rw [if_pos c] at hq
      exact E_rV d_Reader_advance_45 rfl hq
    · rw [if_neg c] at hq
      refine E_aln 0 d_Reader_advance_22 rfl rfl ?_
      refine E_dupr d_Reader_advance_23 ?_
      obtain ⟨v5, ev5, hq⟩ := bd hq
      refine E_gI d_Reader_advance_24 lk_Reader_47 rfl ev5 ?_
      refine E_ic (v := 1) d_Reader_advance_27 (by decide) ?_
      refine E_iadd d_Reader_advance_28 ?_
      obtain ⟨h6, eh6, hq⟩ := bd hq
      refine E_pI d_Reader_advance_29 lp_Reader_m_47 rfl eh6 ?_
      refine E_aln 0 d_Reader_advance_32 rfl rfl ?_
      refine E_aln 0 d_Reader_advance_33 rfl rfl ?_
      obtain ⟨v7, ev7, hq⟩ := bd hq
      refine E_gR d_Reader_advance_34 lk_Reader_41 rfl ev7 ?_
      refine E_aln 0 d_Reader_advance_37 rfl rfl ?_
      obtain ⟨v8, ev8, hq⟩ := bd hq
      refine E_gI d_Reader_advance_38 lk_Reader_47 rfl ev8 ?_
      obtain ⟨v9, ev9, hq⟩ := bd hq
      refine E_ra d_Reader_advance_41 ev9 ?_
      obtain ⟨h10, eh10, hq⟩ := bd hq
      refine E_pI d_Reader_advance_42 lp_Reader_m_50 rfl eh10 ?_
      exact E_rV d_Reader_advance_45 rfl hq
def f_Reader_begin (a0 : Nat) (x1 : Int32) (x2 : Int32) (h : PH) : Option (Int32 × PH) :=
  (ldI h 4 a0 9).bind fun v1 =>
  if v1 = x1 then
    if x2 < 16 then
      (isO h 4 a0).bind fun _ =>
      (f_Reader_advance a0  h).bind fun h2 =>
      rtZ 1 h2
    else
      (isO h 4 a0).bind fun _ =>
      (f_Reader_fail a0 3 h).bind fun p4 =>
      rtZ p4.1 p4.2
  else
    (isO h 4 a0).bind fun _ =>
    (f_Reader_fail a0 1 h).bind fun p6 =>
    rtZ p6.1 p6.2
theorem t_Reader_begin {d : Nat} (hd : 1 ≤ d) {a0 : Nat} {x1 : Int32} {x2 : Int32} {h : PH} {r : Int32 × PH} (hq : f_Reader_begin a0 x1 x2 h = some r) : E d 0 0 m_Reader_begin 0 [(0, .ref a0), (1, .int x1), (2, .int x2)] [] h (PI r) := by
  unfold f_Reader_begin at hq
  obtain ⟨d, rfl⟩ : ∃ e, d = e + 1 := ⟨d - 1, by omega⟩
  refine E_aln 0 d_Reader_begin_0 rfl rfl ?_
  obtain ⟨v1, ev1, hq⟩ := bd hq
  refine E_gI d_Reader_begin_1 lk_Reader_50 rfl ev1 ?_
  refine E_iln 1 d_Reader_begin_4 rfl rfl ?_
  refine E_jeq (tgt := 14) d_Reader_begin_5 (by decide) (fun c => ?_) (fun c => ?_)
  · rw [if_pos c] at hq
    refine E_iln 2 d_Reader_begin_14 rfl rfl ?_
    refine E_bi (v := 16) d_Reader_begin_15 (by decide) ?_
    refine E_jlt (tgt := 26) d_Reader_begin_17 (by decide) (fun c => ?_) (fun c => ?_)
    · rw [if_pos c] at hq
      refine E_aln 0 d_Reader_begin_26 rfl rfl ?_
      obtain ⟨q3, eq3, hq⟩ := bd hq
      obtain ⟨h2, eh2, hq⟩ := bd hq
      refine E_cV0V d_Reader_begin_27 ck_Reader_106 rfl rfl eq3 (Nat.le_of_ble_eq_true rfl) (Nat.le_of_ble_eq_true rfl) (t_Reader_advance (by omega) eh2) ?_
      refine E_ic (v := 1) d_Reader_begin_30 (by decide) ?_
      exact E_rZ d_Reader_begin_31 rfl hq
    · rw [if_neg c] at hq
      refine E_aln 0 d_Reader_begin_20 rfl rfl ?_
      refine E_ic (v := 3) d_Reader_begin_21 (by decide) ?_
      obtain ⟨q5, eq5, hq⟩ := bd hq
      obtain ⟨p4, ep4, hq⟩ := bd hq
      refine E_cV1I d_Reader_begin_22 ck_Reader_103 rfl rfl eq5 (Nat.le_of_ble_eq_true rfl) (Nat.le_of_ble_eq_true rfl) (t_Reader_fail (by omega) ep4) ?_
      exact E_rZ d_Reader_begin_25 rfl hq
  · rw [if_neg c] at hq
    refine E_aln 0 d_Reader_begin_8 rfl rfl ?_
    refine E_ic (v := 1) d_Reader_begin_9 (by decide) ?_
    obtain ⟨q7, eq7, hq⟩ := bd hq
    obtain ⟨p6, ep6, hq⟩ := bd hq
    refine E_cV1I d_Reader_begin_10 ck_Reader_103 rfl rfl eq7 (Nat.le_of_ble_eq_true rfl) (Nat.le_of_ble_eq_true rfl) (t_Reader_fail (by omega) ep6) ?_
    exact E_rZ d_Reader_begin_13 rfl hq
def f_Reader_isNumber (a0 : Nat) (h : PH) : Option (Int32 × PH) :=
  (ldI h 4 a0 9).bind fun v1 =>
  if v1 < 0 then
    rtZ 0 h
  else
    (ldI h 4 a0 9).bind fun v2 =>
    if 9999 < v2 then
      rtZ 0 h
    else
      rtZ 1 h
theorem t_Reader_isNumber {d : Nat} (hd : 0 ≤ d) {a0 : Nat} {h : PH} {r : Int32 × PH} (hq : f_Reader_isNumber a0 h = some r) : E d 0 0 m_Reader_isNumber 0 [(0, .ref a0)] [] h (PI r) := by
  unfold f_Reader_isNumber at hq
  refine E_aln 0 d_Reader_isNumber_0 rfl rfl ?_
  obtain ⟨v1, ev1, hq⟩ := bd hq
  refine E_gI d_Reader_isNumber_1 lk_Reader_50 rfl ev1 ?_
  refine E_zlt (tgt := 21) d_Reader_isNumber_4 (by decide) (fun c => ?_) (fun c => ?_)
  · rw [if_pos c] at hq
    refine E_ic (v := 0) d_Reader_isNumber_21 (by decide) ?_
    exact E_rZ d_Reader_isNumber_22 rfl hq
  · rw [if_neg c] at hq
    refine E_aln 0 d_Reader_isNumber_7 rfl rfl ?_
    obtain ⟨v2, ev2, hq⟩ := bd hq
    refine E_gI d_Reader_isNumber_8 lk_Reader_50 rfl ev2 ?_
    refine E_si (v := 9999) d_Reader_isNumber_11 (by decide) ?_
    refine E_jgt (tgt := 21) d_Reader_isNumber_14 (by decide) (fun c => ?_) (fun c => ?_)
    · rw [if_pos c] at hq
      refine E_ic (v := 0) d_Reader_isNumber_21 (by decide) ?_
      exact E_rZ d_Reader_isNumber_22 rfl hq
    · rw [if_neg c] at hq
      refine E_ic (v := 1) d_Reader_isNumber_17 (by decide) ?_
      refine E_goto (tgt := 22) d_Reader_isNumber_18 (by decide) ?_
      exact E_rZ d_Reader_isNumber_22 rfl hq
def f_Law_write (a0 : Nat) (x1 : Int32) (h : PH) : Option (PH) :=
  (ldI h 2 a0 2).bind fun v1 =>
  (ldR h 2 a0 1).bind fun v2 =>
  (lnA h v2).bind fun v3 =>
  if v3 ≤ v1 then
    some h
  else
    (ldR h 2 a0 1).bind fun v4 =>
    (ldI h 2 a0 2).bind fun v5 =>
    (wrA h v4 v5 x1).bind fun h6 =>
    (ldI h6 2 a0 2).bind fun v7 =>
    (stI h6 2 a0 2 (v7 + 1)).bind fun h8 =>
    some h8
theorem t_Law_write {d : Nat} (hd : 0 ≤ d) {a0 : Nat} {x1 : Int32} {h : PH} {r : PH} (hq : f_Law_write a0 x1 h = some r) : E d 0 0 m_Law_write 0 [(0, .ref a0), (1, .int x1)] [] h (PV r) := by
  unfold f_Law_write at hq
  refine E_aln 0 d_Law_write_0 rfl rfl ?_
  obtain ⟨v1, ev1, hq⟩ := bd hq
  refine E_gI d_Law_write_1 lk_Law_24 rfl ev1 ?_
  refine E_aln 0 d_Law_write_4 rfl rfl ?_
  obtain ⟨v2, ev2, hq⟩ := bd hq
  refine E_gR d_Law_write_5 lk_Law_20 rfl ev2 ?_
  obtain ⟨v3, ev3, hq⟩ := bd hq
  refine E_ln d_Law_write_8 ev3 ?_
  refine E_jge (tgt := 32) d_Law_write_9 (by decide) (fun c => ?_) (fun c => ?_)
  · rw [if_pos c] at hq
    exact E_rV d_Law_write_32 rfl hq
  · rw [if_neg c] at hq
    refine E_aln 0 d_Law_write_12 rfl rfl ?_
    obtain ⟨v4, ev4, hq⟩ := bd hq
    refine E_gR d_Law_write_13 lk_Law_20 rfl ev4 ?_
    refine E_aln 0 d_Law_write_16 rfl rfl ?_
    obtain ⟨v5, ev5, hq⟩ := bd hq
    refine E_gI d_Law_write_17 lk_Law_24 rfl ev5 ?_
    refine E_iln 1 d_Law_write_20 rfl rfl ?_
    obtain ⟨h6, eh6, hq⟩ := bd hq
    refine E_wa d_Law_write_21 eh6 ?_
    refine E_aln 0 d_Law_write_22 rfl rfl ?_
    refine E_dupr d_Law_write_23 ?_
    obtain ⟨v7, ev7, hq⟩ := bd hq
    refine E_gI d_Law_write_24 lk_Law_24 rfl ev7 ?_
    refine E_ic (v := 1) d_Law_write_27 (by decide) ?_
    refine E_iadd d_Law_write_28 ?_
    obtain ⟨h8, eh8, hq⟩ := bd hq
    refine E_pI d_Law_write_29 lp_Law_m_24 rfl eh8 ?_
    exact E_rV d_Law_write_32 rfl hq
def f_Reader_unit_52 (a0 : Nat) (s0 : Int32) (s1 : Nat) (h : PH) : Option (Int32 × PH) :=
  (isO h 2 s1).bind fun _ =>
  (f_Law_write s1 s0 h).bind fun h1 =>
  (isO h1 4 a0).bind fun _ =>
  (f_Reader_advance a0  h1).bind fun h3 =>
  rtZ 1 h3
theorem t_Reader_unit_52 {d : Nat} (hd : 1 ≤ d) {a0 : Nat} {s0 : Int32} {s1 : Nat} {h : PH} {r : Int32 × PH} (hq : f_Reader_unit_52 a0 s0 s1 h = some r) : E d 0 0 m_Reader_unit 52 [(0, .ref a0)] [.int s0, .ref s1] h (PI r) := by
  unfold f_Reader_unit_52 at hq
  obtain ⟨d, rfl⟩ : ∃ e, d = e + 1 := ⟨d - 1, by omega⟩
  obtain ⟨q2, eq2, hq⟩ := bd hq
  obtain ⟨h1, eh1, hq⟩ := bd hq
  refine E_cV1V d_Reader_unit_52 ck_Reader_141 rfl rfl eq2 (Nat.le_of_ble_eq_true rfl) (Nat.le_of_ble_eq_true rfl) (t_Law_write (by omega) eh1) ?_
  refine E_aln 0 d_Reader_unit_55 rfl rfl ?_
  obtain ⟨q4, eq4, hq⟩ := bd hq
  obtain ⟨h3, eh3, hq⟩ := bd hq
  refine E_cV0V d_Reader_unit_56 ck_Reader_106 rfl rfl eq4 (Nat.le_of_ble_eq_true rfl) (Nat.le_of_ble_eq_true rfl) (t_Reader_advance (by omega) eh3) ?_
  refine E_ic (v := 1) d_Reader_unit_59 (by decide) ?_
  exact E_rZ d_Reader_unit_60 rfl hq
def f_Reader_unit_31 (a0 : Nat) (x1 : Int32) (h : PH) : Option (Int32 × PH) :=
  (ldR h 4 a0 4).bind fun v1 =>
  (isO h 4 a0).bind fun _ =>
  (f_Reader_isNumber a0  h).bind fun p2 =>
  if p2.1 = 0 then
    f_Reader_unit_52 a0 ((-1) - x1) v1 p2.2
  else
    (ldI p2.2 4 a0 9).bind fun v4 =>
    f_Reader_unit_52 a0 v4 v1 p2.2
theorem t_Reader_unit_31 {d : Nat} (hd : 1 ≤ d) {a0 : Nat} {x1 : Int32} {h : PH} {r : Int32 × PH} (hq : f_Reader_unit_31 a0 x1 h = some r) : E d 0 0 m_Reader_unit 31 [(0, .ref a0), (1, .int x1)] [] h (PI r) := by
  unfold f_Reader_unit_31 at hq
  obtain ⟨d, rfl⟩ : ∃ e, d = e + 1 := ⟨d - 1, by omega⟩
  refine E_aln 0 d_Reader_unit_31 rfl rfl ?_
  obtain ⟨v1, ev1, hq⟩ := bd hq
  refine E_gR d_Reader_unit_32 lk_Reader_28 rfl ev1 ?_
  refine E_aln 0 d_Reader_unit_35 rfl rfl ?_
  obtain ⟨q3, eq3, hq⟩ := bd hq
  obtain ⟨p2, ep2, hq⟩ := bd hq
  refine E_cV0I d_Reader_unit_36 ck_Reader_109 rfl rfl eq3 (Nat.le_of_ble_eq_true rfl) (Nat.le_of_ble_eq_true rfl) (t_Reader_isNumber (by omega) ep2) ?_
  refine E_zeq (tgt := 49) d_Reader_unit_39 (by decide) (fun c => ?_) (fun c => ?_)
  · rw [if_pos c] at hq
    refine E_ic (v := (-1)) d_Reader_unit_49 (by decide) ?_
    refine E_iln 1 d_Reader_unit_50 rfl rfl ?_
    refine E_isub d_Reader_unit_51 ?_
    exact E_sub (ks := [0]) rfl <| t_Reader_unit_52 (by omega) hq
  · rw [if_neg c] at hq
    refine E_aln 0 d_Reader_unit_42 rfl rfl ?_
    obtain ⟨v4, ev4, hq⟩ := bd hq
    refine E_gI d_Reader_unit_43 lk_Reader_50 rfl ev4 ?_
    refine E_goto (tgt := 52) d_Reader_unit_46 (by decide) ?_
    exact E_sub (ks := [0]) rfl <| t_Reader_unit_52 (by omega) hq
def f_Reader_unit (a0 : Nat) (h : PH) : Option (Int32 × PH) :=
  (ldI h 4 a0 9).bind fun v1 =>
  (isO h 4 a0).bind fun _ =>
  (f_Reader_isNumber a0  h).bind fun p2 =>
  if p2.1 = 0 then
    (f_Tc_within (v1 - 20003) 9 p2.2).bind fun p4 =>
    if p4.1 = 0 then
      (isO p4.2 4 a0).bind fun _ =>
      (f_Reader_fail a0 1 p4.2).bind fun p5 =>
      rtZ p5.1 p5.2
    else
      f_Reader_unit_31 a0 (v1 - 20003) p4.2
  else
    f_Reader_unit_31 a0 (v1 - 20003) p2.2
theorem t_Reader_unit {d : Nat} (hd : 1 ≤ d) {a0 : Nat} {h : PH} {r : Int32 × PH} (hq : f_Reader_unit a0 h = some r) : E d 0 0 m_Reader_unit 0 [(0, .ref a0)] [] h (PI r) := by
  unfold f_Reader_unit at hq
  obtain ⟨d, rfl⟩ : ∃ e, d = e + 1 := ⟨d - 1, by omega⟩
  refine E_aln 0 d_Reader_unit_0 rfl rfl ?_
  obtain ⟨v1, ev1, hq⟩ := bd hq
  refine E_gI d_Reader_unit_1 lk_Reader_50 rfl ev1 ?_
  refine E_si (v := 20003) d_Reader_unit_4 (by decide) ?_
  refine E_isub d_Reader_unit_7 ?_
  refine E_isn (ls' := [(1, .int (v1 - 20003)), (0, .ref a0)]) d_Reader_unit_8 (Nat.le_of_ble_eq_true rfl) rfl ?_
  refine E_aln 1 d_Reader_unit_9 rfl rfl ?_
  obtain ⟨q3, eq3, hq⟩ := bd hq
  obtain ⟨p2, ep2, hq⟩ := bd hq
  refine E_cV0I d_Reader_unit_10 ck_Reader_109 rfl rfl eq3 (Nat.le_of_ble_eq_true rfl) (Nat.le_of_ble_eq_true rfl) (t_Reader_isNumber (by omega) ep2) ?_
  refine E_zne (tgt := 31) d_Reader_unit_13 (by decide) (fun c => ?_) (fun c => ?_)
  · rw [if_neg c] at hq
    exact E_sub (ks := [1, 0]) rfl <| t_Reader_unit_31 (by omega) hq
  · rw [if_pos c] at hq
    refine E_iln 0 d_Reader_unit_16 rfl rfl ?_
    refine E_bi (v := 9) d_Reader_unit_17 (by decide) ?_
    obtain ⟨p4, ep4, hq⟩ := bd hq
    refine E_cS2I d_Reader_unit_19 ck_Reader_151 (Nat.le_of_ble_eq_true rfl) (Nat.le_of_ble_eq_true rfl) (t_Tc_within (by omega) ep4) ?_
    refine E_zne (tgt := 31) d_Reader_unit_22 (by decide) (fun c => ?_) (fun c => ?_)
    · rw [if_neg c] at hq
      exact E_sub (ks := [1, 0]) rfl <| t_Reader_unit_31 (by omega) hq
    · rw [if_pos c] at hq
      refine E_aln 1 d_Reader_unit_25 rfl rfl ?_
      refine E_ic (v := 1) d_Reader_unit_26 (by decide) ?_
      obtain ⟨q6, eq6, hq⟩ := bd hq
      obtain ⟨p5, ep5, hq⟩ := bd hq
      refine E_cV1I d_Reader_unit_27 ck_Reader_103 rfl rfl eq6 (Nat.le_of_ble_eq_true rfl) (Nat.le_of_ble_eq_true rfl) (t_Reader_fail (by omega) ep5) ?_
      exact E_rZ d_Reader_unit_30 rfl hq
def f_Reader_divisor (a0 : Nat) (h : PH) : Option (Int32 × PH) :=
  (isO h 4 a0).bind fun _ =>
  (f_Reader_isNumber a0  h).bind fun p1 =>
  if p1.1 = 0 then
    (isO p1.2 4 a0).bind fun _ =>
    (f_Reader_fail a0 1 p1.2).bind fun p12 =>
    rtZ p12.1 p12.2
  else
    (ldI p1.2 4 a0 9).bind fun v3 =>
    if v3 = 0 then
      (isO p1.2 4 a0).bind fun _ =>
      (f_Reader_fail a0 2 p1.2).bind fun p10 =>
      rtZ p10.1 p10.2
    else
      (ldR p1.2 4 a0 4).bind fun v4 =>
      (ldI p1.2 4 a0 9).bind fun v5 =>
      (isO p1.2 2 v4).bind fun _ =>
      (f_Law_write v4 v5 p1.2).bind fun h6 =>
      (isO h6 4 a0).bind fun _ =>
      (f_Reader_advance a0  h6).bind fun h8 =>
      rtZ 1 h8
theorem t_Reader_divisor {d : Nat} (hd : 1 ≤ d) {a0 : Nat} {h : PH} {r : Int32 × PH} (hq : f_Reader_divisor a0 h = some r) : E d 0 0 m_Reader_divisor 0 [(0, .ref a0)] [] h (PI r) := by
  unfold f_Reader_divisor at hq
  obtain ⟨d, rfl⟩ : ∃ e, d = e + 1 := ⟨d - 1, by omega⟩
  refine E_aln 0 d_Reader_divisor_0 rfl rfl ?_
  obtain ⟨q2, eq2, hq⟩ := bd hq
  obtain ⟨p1, ep1, hq⟩ := bd hq
  refine E_cV0I d_Reader_divisor_1 ck_Reader_109 rfl rfl eq2 (Nat.le_of_ble_eq_true rfl) (Nat.le_of_ble_eq_true rfl) (t_Reader_isNumber (by omega) ep1) ?_
  refine E_zne (tgt := 13) d_Reader_divisor_4 (by decide) (fun c => ?_) (fun c => ?_)
  · rw [if_neg c] at hq
    refine E_aln 0 d_Reader_divisor_13 rfl rfl ?_
    obtain ⟨v3, ev3, hq⟩ := bd hq
    refine E_gI d_Reader_divisor_14 lk_Reader_50 rfl ev3 ?_
    refine E_zne (tgt := 26) d_Reader_divisor_17 (by decide) (fun c => ?_) (fun c => ?_)
    · rw [if_neg c] at hq
      refine E_aln 0 d_Reader_divisor_26 rfl rfl ?_
      obtain ⟨v4, ev4, hq⟩ := bd hq
      refine E_gR d_Reader_divisor_27 lk_Reader_28 rfl ev4 ?_
      refine E_aln 0 d_Reader_divisor_30 rfl rfl ?_
      obtain ⟨v5, ev5, hq⟩ := bd hq
      refine E_gI d_Reader_divisor_31 lk_Reader_50 rfl ev5 ?_
      obtain ⟨q7, eq7, hq⟩ := bd hq
      obtain ⟨h6, eh6, hq⟩ := bd hq
      refine E_cV1V d_Reader_divisor_34 ck_Reader_141 rfl rfl eq7 (Nat.le_of_ble_eq_true rfl) (Nat.le_of_ble_eq_true rfl) (t_Law_write (by omega) eh6) ?_
      refine E_aln 0 d_Reader_divisor_37 rfl rfl ?_
      obtain ⟨q9, eq9, hq⟩ := bd hq
      obtain ⟨h8, eh8, hq⟩ := bd hq
      refine E_cV0V d_Reader_divisor_38 ck_Reader_106 rfl rfl eq9 (Nat.le_of_ble_eq_true rfl) (Nat.le_of_ble_eq_true rfl) (t_Reader_advance (by omega) eh8) ?_
      refine E_ic (v := 1) d_Reader_divisor_41 (by decide) ?_
      exact E_rZ d_Reader_divisor_42 rfl hq
    · rw [if_pos c] at hq
      refine E_aln 0 d_Reader_divisor_20 rfl rfl ?_
      refine E_ic (v := 2) d_Reader_divisor_21 (by decide) ?_
      obtain ⟨q11, eq11, hq⟩ := bd hq
      obtain ⟨p10, ep10, hq⟩ := bd hq
      refine E_cV1I d_Reader_divisor_22 ck_Reader_103 rfl rfl eq11 (Nat.le_of_ble_eq_true rfl) (Nat.le_of_ble_eq_true rfl) (t_Reader_fail (by omega) ep10) ?_
      exact E_rZ d_Reader_divisor_25 rfl hq
  · rw [if_pos c] at hq
    refine E_aln 0 d_Reader_divisor_7 rfl rfl ?_
    refine E_ic (v := 1) d_Reader_divisor_8 (by decide) ?_
    obtain ⟨q13, eq13, hq⟩ := bd hq
    obtain ⟨p12, ep12, hq⟩ := bd hq
    refine E_cV1I d_Reader_divisor_9 ck_Reader_103 rfl rfl eq13 (Nat.le_of_ble_eq_true rfl) (Nat.le_of_ble_eq_true rfl) (t_Reader_fail (by omega) ep12) ?_
    exact E_rZ d_Reader_divisor_12 rfl hq
def f_Reader_sum_154 (k13 : Nat → Int32 → Int32 → PH → Option (Int32 × PH)) (a0 : Nat) (x2 : Int32) (s0 : Int32) (h : PH) : Option (Int32 × PH) :=
  k13 a0 s0 (x2 + 1) h
theorem t_Reader_sum_154 {d : Nat} (hd : 2 ≤ d) {k13 : Nat → Int32 → Int32 → PH → Option (Int32 × PH)} (hk13 : ∀ (a0 : Nat) (x1 : Int32) (x2 : Int32) (h : PH) (r : Int32 × PH), k13 a0 x1 x2 h = some r → E d 0 0 m_Reader_sum 13 [(0, .ref a0), (1, .int x1), (2, .int x2)] [] h (PI r)) {a0 : Nat} {x2 : Int32} {s0 : Int32} {h : PH} {r : Int32 × PH} (hq : f_Reader_sum_154 k13 a0 x2 s0 h = some r) : E d 0 0 m_Reader_sum 154 [(0, .ref a0), (2, .int x2)] [.int s0] h (PI r) := by
  unfold f_Reader_sum_154 at hq
  obtain ⟨d, rfl⟩ : ∃ e, d = e + 1 := ⟨d - 1, by omega⟩
  refine E_isn (ls' := [(1, .int s0), (0, .ref a0), (2, .int x2)]) d_Reader_sum_154 (Nat.le_of_ble_eq_true rfl) rfl ?_
  refine E_inc (v := 1) (ls' := [(2, .int (x2 + 1)), (1, .int s0), (0, .ref a0)]) 2 d_Reader_sum_155 rfl (Nat.le_of_ble_eq_true rfl) (by decide) rfl ?_
  refine E_goto (tgt := 13) d_Reader_sum_158 (by decide) ?_
  exact E_sub (ks := [2, 1, 0]) rfl <| hk13 _ _ _ _ _ hq
def f_Reader_sum_135 (k13 : Nat → Int32 → Int32 → PH → Option (Int32 × PH)) (a0 : Nat) (x1 : Int32) (x2 : Int32) (s0 : Int32) (s1 : Nat) (h : PH) : Option (Int32 × PH) :=
  (isO h 2 s1).bind fun _ =>
  (f_Law_write s1 s0 h).bind fun h1 =>
  k13 a0 x1 (x2 + 1) h1
theorem t_Reader_sum_135 {d : Nat} (hd : 2 ≤ d) {k13 : Nat → Int32 → Int32 → PH → Option (Int32 × PH)} (hk13 : ∀ (a0 : Nat) (x1 : Int32) (x2 : Int32) (h : PH) (r : Int32 × PH), k13 a0 x1 x2 h = some r → E d 0 0 m_Reader_sum 13 [(0, .ref a0), (1, .int x1), (2, .int x2)] [] h (PI r)) {a0 : Nat} {x1 : Int32} {x2 : Int32} {s0 : Int32} {s1 : Nat} {h : PH} {r : Int32 × PH} (hq : f_Reader_sum_135 k13 a0 x1 x2 s0 s1 h = some r) : E d 0 0 m_Reader_sum 135 [(0, .ref a0), (1, .int x1), (2, .int x2)] [.int s0, .ref s1] h (PI r) := by
  unfold f_Reader_sum_135 at hq
  obtain ⟨d, rfl⟩ : ∃ e, d = e + 1 := ⟨d - 1, by omega⟩
  obtain ⟨q2, eq2, hq⟩ := bd hq
  obtain ⟨h1, eh1, hq⟩ := bd hq
  refine E_cV1V d_Reader_sum_135 ck_Reader_141 rfl rfl eq2 (Nat.le_of_ble_eq_true rfl) (Nat.le_of_ble_eq_true rfl) (t_Law_write (by omega) eh1) ?_
  refine E_goto (tgt := 155) d_Reader_sum_138 (by decide) ?_
  refine E_inc (v := 1) (ls' := [(2, .int (x2 + 1)), (0, .ref a0), (1, .int x1)]) 2 d_Reader_sum_155 rfl (Nat.le_of_ble_eq_true rfl) (by decide) rfl ?_
  refine E_goto (tgt := 13) d_Reader_sum_158 (by decide) ?_
  exact E_sub (ks := [1, 2, 0]) rfl <| hk13 _ _ _ _ _ hq
def f_Reader_sum_113 (k13 : Nat → Int32 → Int32 → PH → Option (Int32 × PH)) (a0 : Nat) (x1 : Int32) (x2 : Int32) (x3 : Int32) (x4 : Int32) (h : PH) : Option (Int32 × PH) :=
  if x4 = 0 then
    if x3 = 43 then
      f_Reader_sum_154 k13 a0 x2 (-11) h
    else
      f_Reader_sum_154 k13 a0 x2 (-12) h
  else
    (ldR h 4 a0 4).bind fun v1 =>
    if x3 = 42 then
      f_Reader_sum_135 k13 a0 x1 x2 (-13) v1 h
    else
      f_Reader_sum_135 k13 a0 x1 x2 (-14) v1 h
theorem t_Reader_sum_113 {d : Nat} (hd : 2 ≤ d) {k13 : Nat → Int32 → Int32 → PH → Option (Int32 × PH)} (hk13 : ∀ (a0 : Nat) (x1 : Int32) (x2 : Int32) (h : PH) (r : Int32 × PH), k13 a0 x1 x2 h = some r → E d 0 0 m_Reader_sum 13 [(0, .ref a0), (1, .int x1), (2, .int x2)] [] h (PI r)) {a0 : Nat} {x1 : Int32} {x2 : Int32} {x3 : Int32} {x4 : Int32} {h : PH} {r : Int32 × PH} (hq : f_Reader_sum_113 k13 a0 x1 x2 x3 x4 h = some r) : E d 0 0 m_Reader_sum 113 [(0, .ref a0), (1, .int x1), (2, .int x2), (3, .int x3), (4, .int x4)] [] h (PI r) := by
  unfold f_Reader_sum_113 at hq
  obtain ⟨d, rfl⟩ : ∃ e, d = e + 1 := ⟨d - 1, by omega⟩
  refine E_il 4 d_Reader_sum_113 rfl ?_
  refine E_zeq (tgt := 141) d_Reader_sum_115 (by decide) (fun c => ?_) (fun c => ?_)
  · rw [if_pos c] at hq
    refine E_iln 3 d_Reader_sum_141 rfl rfl ?_
    refine E_bi (v := 43) d_Reader_sum_142 (by decide) ?_
    refine E_jne (tgt := 152) d_Reader_sum_144 (by decide) (fun c => ?_) (fun c => ?_)
    · rw [if_neg c] at hq
      refine E_bi (v := (-12)) d_Reader_sum_152 (by decide) ?_
      exact E_sub (ks := [0, 2]) rfl <| t_Reader_sum_154 (by omega) hk13 hq
    · rw [if_pos c] at hq
      refine E_bi (v := (-11)) d_Reader_sum_147 (by decide) ?_
      refine E_goto (tgt := 154) d_Reader_sum_149 (by decide) ?_
      exact E_sub (ks := [0, 2]) rfl <| t_Reader_sum_154 (by omega) hk13 hq
  · rw [if_neg c] at hq
    refine E_aln 0 d_Reader_sum_118 rfl rfl ?_
    obtain ⟨v1, ev1, hq⟩ := bd hq
    refine E_gR d_Reader_sum_119 lk_Reader_28 rfl ev1 ?_
    refine E_iln 3 d_Reader_sum_122 rfl rfl ?_
    refine E_bi (v := 42) d_Reader_sum_123 (by decide) ?_
    refine E_jne (tgt := 133) d_Reader_sum_125 (by decide) (fun c => ?_) (fun c => ?_)
    · rw [if_neg c] at hq
      refine E_bi (v := (-14)) d_Reader_sum_133 (by decide) ?_
      exact E_sub (ks := [0, 1, 2]) rfl <| t_Reader_sum_135 (by omega) hk13 hq
    · rw [if_pos c] at hq
      refine E_bi (v := (-13)) d_Reader_sum_128 (by decide) ?_
      refine E_goto (tgt := 135) d_Reader_sum_130 (by decide) ?_
      exact E_sub (ks := [0, 1, 2]) rfl <| t_Reader_sum_135 (by omega) hk13 hq
def f_Reader_sum_84 (k13 : Nat → Int32 → Int32 → PH → Option (Int32 × PH)) (a0 : Nat) (x1 : Int32) (x2 : Int32) (x3 : Int32) (x4 : Int32) (h : PH) : Option (Int32 × PH) :=
  (isO h 4 a0).bind fun _ =>
  (f_Reader_advance a0  h).bind fun h1 =>
  if x3 = 47 then
    (isO h1 4 a0).bind fun _ =>
    (f_Reader_divisor a0  h1).bind fun p5 =>
    if p5.1 = 0 then
      rtZ 0 p5.2
    else
      f_Reader_sum_113 k13 a0 x1 x2 x3 x4 p5.2
  else
    (isO h1 4 a0).bind fun _ =>
    (f_Reader_unit a0  h1).bind fun p3 =>
    if p3.1 = 0 then
      rtZ 0 p3.2
    else
      f_Reader_sum_113 k13 a0 x1 x2 x3 x4 p3.2
theorem t_Reader_sum_84 {d : Nat} (hd : 2 ≤ d) {k13 : Nat → Int32 → Int32 → PH → Option (Int32 × PH)} (hk13 : ∀ (a0 : Nat) (x1 : Int32) (x2 : Int32) (h : PH) (r : Int32 × PH), k13 a0 x1 x2 h = some r → E d 0 0 m_Reader_sum 13 [(0, .ref a0), (1, .int x1), (2, .int x2)] [] h (PI r)) {a0 : Nat} {x1 : Int32} {x2 : Int32} {x3 : Int32} {x4 : Int32} {h : PH} {r : Int32 × PH} (hq : f_Reader_sum_84 k13 a0 x1 x2 x3 x4 h = some r) : E d 0 0 m_Reader_sum 84 [(0, .ref a0), (1, .int x1), (2, .int x2), (3, .int x3), (4, .int x4)] [] h (PI r) := by
  unfold f_Reader_sum_84 at hq
  obtain ⟨d, rfl⟩ : ∃ e, d = e + 1 := ⟨d - 1, by omega⟩
  refine E_aln 0 d_Reader_sum_84 rfl rfl ?_
  obtain ⟨q2, eq2, hq⟩ := bd hq
  obtain ⟨h1, eh1, hq⟩ := bd hq
  refine E_cV0V d_Reader_sum_85 ck_Reader_106 rfl rfl eq2 (Nat.le_of_ble_eq_true rfl) (Nat.le_of_ble_eq_true rfl) (t_Reader_advance (by omega) eh1) ?_
  refine E_iln 3 d_Reader_sum_88 rfl rfl ?_
  refine E_bi (v := 47) d_Reader_sum_89 (by decide) ?_
  refine E_jne (tgt := 104) d_Reader_sum_91 (by decide) (fun c => ?_) (fun c => ?_)
  · rw [if_neg c] at hq
    refine E_aln 0 d_Reader_sum_104 rfl rfl ?_
    obtain ⟨q4, eq4, hq⟩ := bd hq
    obtain ⟨p3, ep3, hq⟩ := bd hq
    refine E_cV0I d_Reader_sum_105 ck_Reader_145 rfl rfl eq4 (Nat.le_of_ble_eq_true rfl) (Nat.le_of_ble_eq_true rfl) (t_Reader_unit (by omega) ep3) ?_
    refine E_zne (tgt := 113) d_Reader_sum_108 (by decide) (fun c => ?_) (fun c => ?_)
    · rw [if_neg c] at hq
      exact t_Reader_sum_113 (by omega) hk13 hq
    · rw [if_pos c] at hq
      refine E_ic (v := 0) d_Reader_sum_111 (by decide) ?_
      exact E_rZ d_Reader_sum_112 rfl hq
  · rw [if_pos c] at hq
    refine E_aln 0 d_Reader_sum_94 rfl rfl ?_
    obtain ⟨q6, eq6, hq⟩ := bd hq
    obtain ⟨p5, ep5, hq⟩ := bd hq
    refine E_cV0I d_Reader_sum_95 ck_Reader_148 rfl rfl eq6 (Nat.le_of_ble_eq_true rfl) (Nat.le_of_ble_eq_true rfl) (t_Reader_divisor (by omega) ep5) ?_
    refine E_zeq (tgt := 111) d_Reader_sum_98 (by decide) (fun c => ?_) (fun c => ?_)
    · rw [if_pos c] at hq
      refine E_ic (v := 0) d_Reader_sum_111 (by decide) ?_
      exact E_rZ d_Reader_sum_112 rfl hq
    · rw [if_neg c] at hq
      refine E_goto (tgt := 113) d_Reader_sum_101 (by decide) ?_
      exact t_Reader_sum_113 (by omega) hk13 hq
def f_Reader_sum_65 (k13 : Nat → Int32 → Int32 → PH → Option (Int32 × PH)) (a0 : Nat) (x1 : Int32) (x2 : Int32) (x3 : Int32) (x4 : Int32) (h : PH) : Option (Int32 × PH) :=
  if x4 = 0 then
    if x3 = 43 then
      f_Reader_sum_84 k13 a0 x1 x2 x3 x4 h
    else
      if x3 = 45 then
        f_Reader_sum_84 k13 a0 x1 x2 x3 x4 h
      else
        rtZ 1 h
  else
    f_Reader_sum_84 k13 a0 x1 x2 x3 x4 h
theorem t_Reader_sum_65 {d : Nat} (hd : 2 ≤ d) {k13 : Nat → Int32 → Int32 → PH → Option (Int32 × PH)} (hk13 : ∀ (a0 : Nat) (x1 : Int32) (x2 : Int32) (h : PH) (r : Int32 × PH), k13 a0 x1 x2 h = some r → E d 0 0 m_Reader_sum 13 [(0, .ref a0), (1, .int x1), (2, .int x2)] [] h (PI r)) {a0 : Nat} {x1 : Int32} {x2 : Int32} {x3 : Int32} {x4 : Int32} {h : PH} {r : Int32 × PH} (hq : f_Reader_sum_65 k13 a0 x1 x2 x3 x4 h = some r) : E d 0 0 m_Reader_sum 65 [(0, .ref a0), (1, .int x1), (2, .int x2), (3, .int x3), (4, .int x4)] [] h (PI r) := by
  unfold f_Reader_sum_65 at hq
  obtain ⟨d, rfl⟩ : ∃ e, d = e + 1 := ⟨d - 1, by omega⟩
  refine E_il 4 d_Reader_sum_65 rfl ?_
  refine E_zne (tgt := 84) d_Reader_sum_67 (by decide) (fun c => ?_) (fun c => ?_)
  · rw [if_neg c] at hq
    exact t_Reader_sum_84 (by omega) hk13 hq
  · rw [if_pos c] at hq
    refine E_iln 3 d_Reader_sum_70 rfl rfl ?_
    refine E_bi (v := 43) d_Reader_sum_71 (by decide) ?_
    refine E_jeq (tgt := 84) d_Reader_sum_73 (by decide) (fun c => ?_) (fun c => ?_)
    · rw [if_pos c] at hq
      exact t_Reader_sum_84 (by omega) hk13 hq
    · rw [if_neg c] at hq
      refine E_iln 3 d_Reader_sum_76 rfl rfl ?_
      refine E_bi (v := 45) d_Reader_sum_77 (by decide) ?_
      refine E_jeq (tgt := 84) d_Reader_sum_79 (by decide) (fun c => ?_) (fun c => ?_)
      · rw [if_pos c] at hq
        exact t_Reader_sum_84 (by omega) hk13 hq
      · rw [if_neg c] at hq
        refine E_ic (v := 1) d_Reader_sum_82 (by decide) ?_
        exact E_rZ d_Reader_sum_83 rfl hq
def f_Reader_sum_46 (k13 : Nat → Int32 → Int32 → PH → Option (Int32 × PH)) (a0 : Nat) (x1 : Int32) (x2 : Int32) (x3 : Int32) (s0 : Int32) (h : PH) : Option (Int32 × PH) :=
  if s0 = 0 then
    if x1 = 0 then
      f_Reader_sum_65 k13 a0 x1 x2 x3 s0 h
    else
      (ldR h 4 a0 4).bind fun v1 =>
      (isO h 2 v1).bind fun _ =>
      (f_Law_write v1 x1 h).bind fun h2 =>
      f_Reader_sum_65 k13 a0 x1 x2 x3 s0 h2
  else
    f_Reader_sum_65 k13 a0 x1 x2 x3 s0 h
theorem t_Reader_sum_46 {d : Nat} (hd : 2 ≤ d) {k13 : Nat → Int32 → Int32 → PH → Option (Int32 × PH)} (hk13 : ∀ (a0 : Nat) (x1 : Int32) (x2 : Int32) (h : PH) (r : Int32 × PH), k13 a0 x1 x2 h = some r → E d 0 0 m_Reader_sum 13 [(0, .ref a0), (1, .int x1), (2, .int x2)] [] h (PI r)) {a0 : Nat} {x1 : Int32} {x2 : Int32} {x3 : Int32} {s0 : Int32} {h : PH} {r : Int32 × PH} (hq : f_Reader_sum_46 k13 a0 x1 x2 x3 s0 h = some r) : E d 0 0 m_Reader_sum 46 [(0, .ref a0), (1, .int x1), (2, .int x2), (3, .int x3)] [.int s0] h (PI r) := by
  unfold f_Reader_sum_46 at hq
  obtain ⟨d, rfl⟩ : ∃ e, d = e + 1 := ⟨d - 1, by omega⟩
  refine E_is (ls' := [(4, .int s0), (0, .ref a0), (1, .int x1), (2, .int x2), (3, .int x3)]) d_Reader_sum_46 (Nat.le_of_ble_eq_true rfl) rfl ?_
  refine E_il 0 d_Reader_sum_48 rfl ?_
  refine E_zne (tgt := 65) d_Reader_sum_50 (by decide) (fun c => ?_) (fun c => ?_)
  · rw [if_neg c] at hq
    exact E_sub (ks := [1, 2, 3, 4, 0]) rfl <| t_Reader_sum_65 (by omega) hk13 hq
  · rw [if_pos c] at hq
    refine E_iln 2 d_Reader_sum_53 rfl rfl ?_
    refine E_zeq (tgt := 65) d_Reader_sum_54 (by decide) (fun c => ?_) (fun c => ?_)
    · rw [if_pos c] at hq
      exact E_sub (ks := [1, 2, 3, 4, 0]) rfl <| t_Reader_sum_65 (by omega) hk13 hq
    · rw [if_neg c] at hq
      refine E_aln 1 d_Reader_sum_57 rfl rfl ?_
      obtain ⟨v1, ev1, hq⟩ := bd hq
      refine E_gR d_Reader_sum_58 lk_Reader_28 rfl ev1 ?_
      refine E_iln 2 d_Reader_sum_61 rfl rfl ?_
      obtain ⟨q3, eq3, hq⟩ := bd hq
      obtain ⟨h2, eh2, hq⟩ := bd hq
      refine E_cV1V d_Reader_sum_62 ck_Reader_141 rfl rfl eq3 (Nat.le_of_ble_eq_true rfl) (Nat.le_of_ble_eq_true rfl) (t_Law_write (by omega) eh2) ?_
      exact E_sub (ks := [1, 2, 3, 4, 0]) rfl <| t_Reader_sum_65 (by omega) hk13 hq
def f_Reader_sum_41 (k13 : Nat → Int32 → Int32 → PH → Option (Int32 × PH)) (a0 : Nat) (x1 : Int32) (x2 : Int32) (x3 : Int32) (h : PH) : Option (Int32 × PH) :=
  f_Reader_sum_46 k13 a0 x1 x2 x3 1 h
theorem t_Reader_sum_41 {d : Nat} (hd : 2 ≤ d) {k13 : Nat → Int32 → Int32 → PH → Option (Int32 × PH)} (hk13 : ∀ (a0 : Nat) (x1 : Int32) (x2 : Int32) (h : PH) (r : Int32 × PH), k13 a0 x1 x2 h = some r → E d 0 0 m_Reader_sum 13 [(0, .ref a0), (1, .int x1), (2, .int x2)] [] h (PI r)) {a0 : Nat} {x1 : Int32} {x2 : Int32} {x3 : Int32} {h : PH} {r : Int32 × PH} (hq : f_Reader_sum_41 k13 a0 x1 x2 x3 h = some r) : E d 0 0 m_Reader_sum 41 [(0, .ref a0), (1, .int x1), (2, .int x2), (3, .int x3)] [] h (PI r) := by
  unfold f_Reader_sum_41 at hq
  obtain ⟨d, rfl⟩ : ∃ e, d = e + 1 := ⟨d - 1, by omega⟩
  refine E_ic (v := 1) d_Reader_sum_41 (by decide) ?_
  refine E_goto (tgt := 46) d_Reader_sum_42 (by decide) ?_
  exact t_Reader_sum_46 (by omega) hk13 hq
def f_Reader_sum_13 : Nat → Nat → Int32 → Int32 → PH → Option (Int32 × PH)
  | 0, _, _, _, _ => none
  | n + 1, a0, x1, x2, h =>
    if 400 < x2 then
      rtZ 0 h
    else
      (ldI h 4 a0 9).bind fun v1 =>
      if (v1 - 10000) = 42 then
        f_Reader_sum_41 (fun a0 x1 x2 h => f_Reader_sum_13 n a0 x1 x2 h) a0 x1 x2 (v1 - 10000) h
      else
        if (v1 - 10000) = 47 then
          f_Reader_sum_41 (fun a0 x1 x2 h => f_Reader_sum_13 n a0 x1 x2 h) a0 x1 x2 (v1 - 10000) h
        else
          f_Reader_sum_46 (fun a0 x1 x2 h => f_Reader_sum_13 n a0 x1 x2 h) a0 x1 x2 (v1 - 10000) 0 h
theorem t_Reader_sum_13 {d : Nat} (hd : 2 ≤ d) : ∀ (n : Nat) (a0 : Nat) (x1 : Int32) (x2 : Int32) (h : PH) (r : Int32 × PH), f_Reader_sum_13 n a0 x1 x2 h = some r → E d 0 0 m_Reader_sum 13 [(0, .ref a0), (1, .int x1), (2, .int x2)] [] h (PI r) := by
  intro n
  induction n with
  | zero => intro a0 x1 x2 h r hq; rw [f_Reader_sum_13] at hq; cases hq
  | succ n ih =>
    intro a0 x1 x2 h r hq
    rw [f_Reader_sum_13] at hq
    obtain ⟨d, rfl⟩ : ∃ e, d = e + 1 := ⟨d - 1, by omega⟩
    refine E_iln 2 d_Reader_sum_13 rfl rfl ?_
    refine E_si (v := 400) d_Reader_sum_14 (by decide) ?_
    refine E_jgt (tgt := 161) d_Reader_sum_17 (by decide) (fun c => ?_) (fun c => ?_)
    · rw [if_pos c] at hq
      refine E_ic (v := 0) d_Reader_sum_161 (by decide) ?_
      exact E_rZ d_Reader_sum_162 rfl hq
    · rw [if_neg c] at hq
      refine E_aln 0 d_Reader_sum_20 rfl rfl ?_
      obtain ⟨v1, ev1, hq⟩ := bd hq
      refine E_gI d_Reader_sum_21 lk_Reader_50 rfl ev1 ?_
      refine E_si (v := 10000) d_Reader_sum_24 (by decide) ?_
      refine E_isub d_Reader_sum_27 ?_
      refine E_isn (ls' := [(3, .int (v1 - 10000)), (0, .ref a0), (1, .int x1), (2, .int x2)]) d_Reader_sum_28 (Nat.le_of_ble_eq_true rfl) rfl ?_
      refine E_iln 0 d_Reader_sum_29 rfl rfl ?_
      refine E_bi (v := 42) d_Reader_sum_30 (by decide) ?_
      refine E_jeq (tgt := 41) d_Reader_sum_32 (by decide) (fun c => ?_) (fun c => ?_)
      · rw [if_pos c] at hq
        exact E_sub (ks := [1, 2, 3, 0]) rfl <| t_Reader_sum_41 (by omega) ih hq
      · rw [if_neg c] at hq
        refine E_iln 0 d_Reader_sum_35 rfl rfl ?_
        refine E_bi (v := 47) d_Reader_sum_36 (by decide) ?_
        refine E_jne (tgt := 45) d_Reader_sum_38 (by decide) (fun c => ?_) (fun c => ?_)
        · rw [if_neg c] at hq
          refine E_ic (v := 0) d_Reader_sum_45 (by decide) ?_
          exact E_sub (ks := [1, 2, 3, 0]) rfl <| t_Reader_sum_46 (by omega) ih hq
        · rw [if_pos c] at hq
          exact E_sub (ks := [1, 2, 3, 0]) rfl <| t_Reader_sum_41 (by omega) ih hq
def f_Reader_sum (a0 : Nat) (h : PH) : Option (Int32 × PH) :=
  (isO h 4 a0).bind fun _ =>
  (f_Reader_unit a0  h).bind fun p1 =>
  if p1.1 = 0 then
    rtZ 0 p1.2
  else
    f_Reader_sum_13 FU a0 0 0 p1.2
theorem t_Reader_sum {d : Nat} (hd : 2 ≤ d) {a0 : Nat} {h : PH} {r : Int32 × PH} (hq : f_Reader_sum a0 h = some r) : E d 0 0 m_Reader_sum 0 [(0, .ref a0)] [] h (PI r) := by
  unfold f_Reader_sum at hq
  obtain ⟨d, rfl⟩ : ∃ e, d = e + 1 := ⟨d - 1, by omega⟩
  refine E_ic (v := 0) d_Reader_sum_0 (by decide) ?_
  refine E_isn (ls' := [(1, .int 0), (0, .ref a0)]) d_Reader_sum_1 (Nat.le_of_ble_eq_true rfl) rfl ?_
  refine E_aln 1 d_Reader_sum_2 rfl rfl ?_
  obtain ⟨q2, eq2, hq⟩ := bd hq
  obtain ⟨p1, ep1, hq⟩ := bd hq
  refine E_cV0I d_Reader_sum_3 ck_Reader_145 rfl rfl eq2 (Nat.le_of_ble_eq_true rfl) (Nat.le_of_ble_eq_true rfl) (t_Reader_unit (by omega) ep1) ?_
  refine E_zne (tgt := 11) d_Reader_sum_6 (by decide) (fun c => ?_) (fun c => ?_)
  · rw [if_neg c] at hq
    refine E_ic (v := 0) d_Reader_sum_11 (by decide) ?_
    refine E_isn (ls' := [(2, .int 0), (1, .int 0), (0, .ref a0)]) d_Reader_sum_12 (Nat.le_of_ble_eq_true rfl) rfl ?_
    exact E_sub (ks := [2, 1, 0]) rfl <| t_Reader_sum_13 (by omega) _ _ _ _ _ _ hq
  · rw [if_pos c] at hq
    refine E_ic (v := 0) d_Reader_sum_9 (by decide) ?_
    exact E_rZ d_Reader_sum_10 rfl hq
