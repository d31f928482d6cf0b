/-! ===== a row and its realm change together ===== -/
def upr (g : Nat → Int32) (k : Nat) (v : Int32) : Nat → Int32 := fun j => if j = k then v else g j
theorem upr_q {g : Nat → Int32} {k : Nat} {v : Int32} : upr g k v k = v := if_pos rfl
theorem upr_n {g : Nat → Int32} {k j : Nat} {v : Int32} (h : j ≠ k) : upr g k v j = g j := if_neg h
theorem Rw.put {hh : PH} {b k : Nat} {g : Nat → Int32} {v : Int32} (rw' : Rw hh b g) : Rw (sI hh (b + 132) k v) b (upr g k v) := fun j hj => by
  by_cases q : j = k
  · subst q; rw [upr_q, gI_q rfl rfl]
  · rw [upr_n q, gI_n2 q]; exact rw' j hj
theorem Rw.sn {L : SL} {hh h2 : PH} {b : Nat} {g : Nat → Int32} (rw' : Rw hh b g) (t : Sn L b hh h2) (hd : disj L [(132, 0, 79)] = true) : Rw h2 b g := fun j hj => by
  rw [t.I (disj_ok hd (inL_in (lo := 0) (hi := 79) (by decide) (by omega) hj))]; exact rw' j hj
theorem Rl.coin {h hh : PH} {b r t : Nat} {g : Nat → Int32} {w : Int32} (I : Inv b h) (hr : r = 2 ∨ r = 114) (rl : Rl h hh b r g) (ht : t < ntOf h b) : Rl h (sI hh (b + (r + 3)) t (w)) b r (upr g (7 + t) w) := by
  obtain ⟨s, cd, c_stat, c_realm, c_book, c_law, c_kin, c_shi, c_roa, c_ord, c_han, c_wei, c_bag, c_pri, c_cnt, c_led, c_yea, c_log, c_rdr, c_msc, c_img⟩ := I
  obtain ⟨⟨hnt, hno⟩, _⟩ := c_realm
  obtain ⟨F1, F9, F0, F15, F16, F17, F18, F19, F14, F7, F8, RT, RO⟩ := rl
  have N : ∀ o j, o ≠ r + 3 → gI (sI hh (b + (r + 3)) t (w)) (b + o) j = gI hh (b + o) j := fun o j ho => gI_n1 (by omega)
  have U : ∀ j, j ≠ 7 + t → upr g (7 + t) w j = g j := fun j hj => upr_n hj
  unfold Rl RealmAt RlR
  refine ⟨?_, ?_, ?_, ?_, ?_, ?_, ?_, ?_, ?_, ?_, ?_, fun k hk => ?_, fun o ho => ?_⟩
  · rw [N r 1 (by omega)]; exact F1
  · rw [N r 9 (by omega)]; exact F9
  · rw [N r 0 (by omega), U 1 (by omega)]; exact F0
  · rw [N r 15 (by omega), U 3 (by omega)]; exact F15
  · rw [N r 16 (by omega), U 4 (by omega)]; exact F16
  · rw [N r 17 (by omega), U 5 (by omega)]; exact F17
  · rw [N r 18 (by omega), U 0 (by omega)]; exact F18
  · rw [N r 19 (by omega), U 2 (by omega)]; exact F19
  · rw [N r 14 (by omega), U 6 (by omega)]; exact F14
  · rw [N r 7 (by omega), bs_cg (q := fun t => g (43 + t) == 1) (fun k hk => by rw [U _ (by omega)])]; exact F7
  · rw [N r 8 (by omega), bs_cg (q := fun t => g (55 + t) == 1) (fun k hk => by rw [U _ (by omega)])]; exact F8
  · obtain ⟨a1, a2, a3, a4, a5⟩ := RT k hk
    rw [N (r + 1) _ (by omega), N (r + 2) _ (by omega), N (r + 4) _ (by omega), N (r + 5) _ (by omega), U (19 + k) (by omega), U (31 + k) (by omega)]
    by_cases q : k = t
    · subst q
      exact ⟨a1, a2, by rw [gI_q rfl rfl, upr_q], a4, a5⟩
    · exact ⟨a1, a2, by rw [gI_n2 q, U _ (by omega)]; exact a3, a4, a5⟩
  · obtain ⟨a1, a2, a3, a4⟩ := RO o ho
    rw [N (r + 6) _ (by omega), N (r + 7) _ (by omega), N (r + 8) _ (by omega), N (r + 9) _ (by omega), U (67 + o) (by omega), U (73 + o) (by omega)]
    exact ⟨a1, a2, a3, a4⟩
theorem Rl.wet {h hh : PH} {b r t : Nat} {g : Nat → Int32} {w : Int32} (I : Inv b h) (hr : r = 2 ∨ r = 114) (rl : Rl h hh b r g) (ht : t < ntOf h b) : Rl h (sI hh (b + (r + 4)) t (w)) b r (upr g (19 + t) w) := by
  obtain ⟨s, cd, c_stat, c_realm, c_book, c_law, c_kin, c_shi, c_roa, c_ord, c_han, c_wei, c_bag, c_pri, c_cnt, c_led, c_yea, c_log, c_rdr, c_msc, c_img⟩ := I
  obtain ⟨⟨hnt, hno⟩, _⟩ := c_realm
  obtain ⟨F1, F9, F0, F15, F16, F17, F18, F19, F14, F7, F8, RT, RO⟩ := rl
  have N : ∀ o j, o ≠ r + 4 → gI (sI hh (b + (r + 4)) t (w)) (b + o) j = gI hh (b + o) j := fun o j ho => gI_n1 (by omega)
  have U : ∀ j, j ≠ 19 + t → upr g (19 + t) w j = g j := fun j hj => upr_n hj
  unfold Rl RealmAt RlR
  refine ⟨?_, ?_, ?_, ?_, ?_, ?_, ?_, ?_, ?_, ?_, ?_, fun k hk => ?_, fun o ho => ?_⟩
  · rw [N r 1 (by omega)]; exact F1
  · rw [N r 9 (by omega)]; exact F9
  · rw [N r 0 (by omega), U 1 (by omega)]; exact F0
  · rw [N r 15 (by omega), U 3 (by omega)]; exact F15
  · rw [N r 16 (by omega), U 4 (by omega)]; exact F16
  · rw [N r 17 (by omega), U 5 (by omega)]; exact F17
  · rw [N r 18 (by omega), U 0 (by omega)]; exact F18
  · rw [N r 19 (by omega), U 2 (by omega)]; exact F19
  · rw [N r 14 (by omega), U 6 (by omega)]; exact F14
  · rw [N r 7 (by omega), bs_cg (q := fun t => g (43 + t) == 1) (fun k hk => by rw [U _ (by omega)])]; exact F7
  · rw [N r 8 (by omega), bs_cg (q := fun t => g (55 + t) == 1) (fun k hk => by rw [U _ (by omega)])]; exact F8
  · obtain ⟨a1, a2, a3, a4, a5⟩ := RT k hk
    rw [N (r + 1) _ (by omega), N (r + 2) _ (by omega), N (r + 3) _ (by omega), N (r + 5) _ (by omega), U (7 + k) (by omega), U (31 + k) (by omega)]
    by_cases q : k = t
    · subst q
      exact ⟨a1, a2, a3, by rw [gI_q rfl rfl, upr_q], a5⟩
    · exact ⟨a1, a2, a3, by rw [gI_n2 q, U _ (by omega)]; exact a4, a5⟩
  · obtain ⟨a1, a2, a3, a4⟩ := RO o ho
    rw [N (r + 6) _ (by omega), N (r + 7) _ (by omega), N (r + 8) _ (by omega), N (r + 9) _ (by omega), U (67 + o) (by omega), U (73 + o) (by omega)]
    exact ⟨a1, a2, a3, a4⟩
theorem Rl.place {h hh : PH} {b r t : Nat} {g : Nat → Int32} {w : Int32} (I : Inv b h) (hr : r = 2 ∨ r = 114) (rl : Rl h hh b r g) (ht : t < ntOf h b) : Rl h (sI hh (b + (r + 5)) t (w - 1)) b r (upr g (31 + t) w) := by
  obtain ⟨s, cd, c_stat, c_realm, c_book, c_law, c_kin, c_shi, c_roa, c_ord, c_han, c_wei, c_bag, c_pri, c_cnt, c_led, c_yea, c_log, c_rdr, c_msc, c_img⟩ := I
  obtain ⟨⟨hnt, hno⟩, _⟩ := c_realm
  obtain ⟨F1, F9, F0, F15, F16, F17, F18, F19, F14, F7, F8, RT, RO⟩ := rl
  have N : ∀ o j, o ≠ r + 5 → gI (sI hh (b + (r + 5)) t (w - 1)) (b + o) j = gI hh (b + o) j := fun o j ho => gI_n1 (by omega)
  have U : ∀ j, j ≠ 31 + t → upr g (31 + t) w j = g j := fun j hj => upr_n hj
  unfold Rl RealmAt RlR
  refine ⟨?_, ?_, ?_, ?_, ?_, ?_, ?_, ?_, ?_, ?_, ?_, fun k hk => ?_, fun o ho => ?_⟩
  · rw [N r 1 (by omega)]; exact F1
  · rw [N r 9 (by omega)]; exact F9
  · rw [N r 0 (by omega), U 1 (by omega)]; exact F0
  · rw [N r 15 (by omega), U 3 (by omega)]; exact F15
  · rw [N r 16 (by omega), U 4 (by omega)]; exact F16
  · rw [N r 17 (by omega), U 5 (by omega)]; exact F17
  · rw [N r 18 (by omega), U 0 (by omega)]; exact F18
  · rw [N r 19 (by omega), U 2 (by omega)]; exact F19
  · rw [N r 14 (by omega), U 6 (by omega)]; exact F14
  · rw [N r 7 (by omega), bs_cg (q := fun t => g (43 + t) == 1) (fun k hk => by rw [U _ (by omega)])]; exact F7
  · rw [N r 8 (by omega), bs_cg (q := fun t => g (55 + t) == 1) (fun k hk => by rw [U _ (by omega)])]; exact F8
  · obtain ⟨a1, a2, a3, a4, a5⟩ := RT k hk
    rw [N (r + 1) _ (by omega), N (r + 2) _ (by omega), N (r + 3) _ (by omega), N (r + 4) _ (by omega), U (7 + k) (by omega), U (19 + k) (by omega)]
    by_cases q : k = t
    · subst q
      exact ⟨a1, a2, a3, a4, by rw [gI_q rfl rfl, upr_q]⟩
    · exact ⟨a1, a2, a3, a4, by rw [gI_n2 q, U _ (by omega)]; exact a5⟩
  · obtain ⟨a1, a2, a3, a4⟩ := RO o ho
    rw [N (r + 6) _ (by omega), N (r + 7) _ (by omega), N (r + 8) _ (by omega), N (r + 9) _ (by omega), U (67 + o) (by omega), U (73 + o) (by omega)]
    exact ⟨a1, a2, a3, a4⟩
theorem Rl.gate {h hh : PH} {b r t : Nat} {g : Nat → Int32} {w : Int32} (I : Inv b h) (hr : r = 2 ∨ r = 114) (rl : Rl h hh b r g) (ht : t < noOf h b) : Rl h (sI hh (b + (r + 6)) t (w)) b r (upr g (67 + t) w) := by
  obtain ⟨s, cd, c_stat, c_realm, c_book, c_law, c_kin, c_shi, c_roa, c_ord, c_han, c_wei, c_bag, c_pri, c_cnt, c_led, c_yea, c_log, c_rdr, c_msc, c_img⟩ := I
  obtain ⟨⟨hnt, hno⟩, _⟩ := c_realm
  obtain ⟨F1, F9, F0, F15, F16, F17, F18, F19, F14, F7, F8, RT, RO⟩ := rl
  have N : ∀ o j, o ≠ r + 6 → gI (sI hh (b + (r + 6)) t (w)) (b + o) j = gI hh (b + o) j := fun o j ho => gI_n1 (by omega)
  have U : ∀ j, j ≠ 67 + t → upr g (67 + t) w j = g j := fun j hj => upr_n hj
  unfold Rl RealmAt RlR
  refine ⟨?_, ?_, ?_, ?_, ?_, ?_, ?_, ?_, ?_, ?_, ?_, fun k hk => ?_, fun o ho => ?_⟩
  · rw [N r 1 (by omega)]; exact F1
  · rw [N r 9 (by omega)]; exact F9
  · rw [N r 0 (by omega), U 1 (by omega)]; exact F0
  · rw [N r 15 (by omega), U 3 (by omega)]; exact F15
  · rw [N r 16 (by omega), U 4 (by omega)]; exact F16
  · rw [N r 17 (by omega), U 5 (by omega)]; exact F17
  · rw [N r 18 (by omega), U 0 (by omega)]; exact F18
  · rw [N r 19 (by omega), U 2 (by omega)]; exact F19
  · rw [N r 14 (by omega), U 6 (by omega)]; exact F14
  · rw [N r 7 (by omega), bs_cg (q := fun t => g (43 + t) == 1) (fun k hk => by rw [U _ (by omega)])]; exact F7
  · rw [N r 8 (by omega), bs_cg (q := fun t => g (55 + t) == 1) (fun k hk => by rw [U _ (by omega)])]; exact F8
  · obtain ⟨a1, a2, a3, a4, a5⟩ := RT k hk
    rw [N (r + 1) _ (by omega), N (r + 2) _ (by omega), N (r + 3) _ (by omega), N (r + 4) _ (by omega), N (r + 5) _ (by omega), U (7 + k) (by omega), U (19 + k) (by omega), U (31 + k) (by omega)]
    exact ⟨a1, a2, a3, a4, a5⟩
  · obtain ⟨a1, a2, a3, a4⟩ := RO o ho
    rw [N (r + 7) _ (by omega), N (r + 8) _ (by omega), N (r + 9) _ (by omega), U (73 + o) (by omega)]
    by_cases q : o = t
    · subst q
      exact ⟨by rw [gI_q rfl rfl, upr_q], a2, a3, a4⟩
    · exact ⟨by rw [gI_n2 q, U _ (by omega)]; exact a1, a2, a3, a4⟩
theorem Rl.tired {h hh : PH} {b r t : Nat} {g : Nat → Int32} {w : Int32} (I : Inv b h) (hr : r = 2 ∨ r = 114) (rl : Rl h hh b r g) (ht : t < noOf h b) : Rl h (sI hh (b + (r + 9)) t (w)) b r (upr g (73 + t) w) := by
  obtain ⟨s, cd, c_stat, c_realm, c_book, c_law, c_kin, c_shi, c_roa, c_ord, c_han, c_wei, c_bag, c_pri, c_cnt, c_led, c_yea, c_log, c_rdr, c_msc, c_img⟩ := I
  obtain ⟨⟨hnt, hno⟩, _⟩ := c_realm
  obtain ⟨F1, F9, F0, F15, F16, F17, F18, F19, F14, F7, F8, RT, RO⟩ := rl
  have N : ∀ o j, o ≠ r + 9 → gI (sI hh (b + (r + 9)) t (w)) (b + o) j = gI hh (b + o) j := fun o j ho => gI_n1 (by omega)
  have U : ∀ j, j ≠ 73 + t → upr g (73 + t) w j = g j := fun j hj => upr_n hj
  unfold Rl RealmAt RlR
  refine ⟨?_, ?_, ?_, ?_, ?_, ?_, ?_, ?_, ?_, ?_, ?_, fun k hk => ?_, fun o ho => ?_⟩
  · rw [N r 1 (by omega)]; exact F1
  · rw [N r 9 (by omega)]; exact F9
  · rw [N r 0 (by omega), U 1 (by omega)]; exact F0
  · rw [N r 15 (by omega), U 3 (by omega)]; exact F15
  · rw [N r 16 (by omega), U 4 (by omega)]; exact F16
  · rw [N r 17 (by omega), U 5 (by omega)]; exact F17
  · rw [N r 18 (by omega), U 0 (by omega)]; exact F18
  · rw [N r 19 (by omega), U 2 (by omega)]; exact F19
  · rw [N r 14 (by omega), U 6 (by omega)]; exact F14
  · rw [N r 7 (by omega), bs_cg (q := fun t => g (43 + t) == 1) (fun k hk => by rw [U _ (by omega)])]; exact F7
  · rw [N r 8 (by omega), bs_cg (q := fun t => g (55 + t) == 1) (fun k hk => by rw [U _ (by omega)])]; exact F8
  · obtain ⟨a1, a2, a3, a4, a5⟩ := RT k hk
    rw [N (r + 1) _ (by omega), N (r + 2) _ (by omega), N (r + 3) _ (by omega), N (r + 4) _ (by omega), N (r + 5) _ (by omega), U (7 + k) (by omega), U (19 + k) (by omega), U (31 + k) (by omega)]
    exact ⟨a1, a2, a3, a4, a5⟩
  · obtain ⟨a1, a2, a3, a4⟩ := RO o ho
    rw [N (r + 6) _ (by omega), N (r + 7) _ (by omega), N (r + 8) _ (by omega), U (67 + o) (by omega)]
    by_cases q : o = t
    · subst q
      exact ⟨a1, a2, a3, by rw [gI_q rfl rfl, upr_q]⟩
    · exact ⟨a1, a2, a3, by rw [gI_n2 q, U _ (by omega)]; exact a4⟩
theorem Rl.draws {h hh : PH} {b r : Nat} {g : Nat → Int32} {w : Int32} (I : Inv b h) (hr : r = 2 ∨ r = 114) (rl : Rl h hh b r g) : Rl h (sI hh (b + r) 0 w) b r (upr g 1 w) := by
  obtain ⟨s, cd, c_stat, c_realm, c_book, c_law, c_kin, c_shi, c_roa, c_ord, c_han, c_wei, c_bag, c_pri, c_cnt, c_led, c_yea, c_log, c_rdr, c_msc, c_img⟩ := I
  obtain ⟨⟨hnt, hno⟩, _⟩ := c_realm
  obtain ⟨F1, F9, F0, F15, F16, F17, F18, F19, F14, F7, F8, RT, RO⟩ := rl
  have N : ∀ o j, o ≠ r → gI (sI hh (b + r) 0 w) (b + o) j = gI hh (b + o) j := fun o j ho => gI_n1 (by omega)
  have M : ∀ j, j ≠ 0 → gI (sI hh (b + r) 0 w) (b + r) j = gI hh (b + r) j := fun j hj => gI_n2 hj
  have U : ∀ j, j ≠ 1 → (upr g 1 w) j = g j := fun j hj => upr_n hj
  unfold Rl RealmAt RlR
  refine ⟨?_, ?_, ?_, ?_, ?_, ?_, ?_, ?_, ?_, ?_, ?_, fun k hk => ?_, fun o ho => ?_⟩
  · rw [M 1 (by omega)]; exact F1
  · rw [M 9 (by omega)]; exact F9
  · rw [gI_q rfl rfl, upr_q]
  · rw [M 15 (by omega), U 3 (by omega)]; exact F15
  · rw [M 16 (by omega), U 4 (by omega)]; exact F16
  · rw [M 17 (by omega), U 5 (by omega)]; exact F17
  · rw [M 18 (by omega), U 0 (by omega)]; exact F18
  · rw [M 19 (by omega), U 2 (by omega)]; exact F19
  · rw [M 14 (by omega), U 6 (by omega)]; exact F14
  · rw [M 7 (by omega), bs_cg (q := fun t => g (43 + t) == 1) (fun k hk => by rw [U _ (by omega)])]; exact F7
  · rw [M 8 (by omega), bs_cg (q := fun t => g (55 + t) == 1) (fun k hk => by rw [U _ (by omega)])]; exact F8
  · obtain ⟨a1, a2, a3, a4, a5⟩ := RT k hk
    rw [N (r + 1) _ (by omega), N (r + 2) _ (by omega), N (r + 3) _ (by omega), N (r + 4) _ (by omega), N (r + 5) _ (by omega), U (7 + k) (by omega), U (19 + k) (by omega), U (31 + k) (by omega)]
    exact ⟨a1, a2, a3, a4, a5⟩
  · obtain ⟨a1, a2, a3, a4⟩ := RO o ho
    rw [N (r + 6) _ (by omega), N (r + 7) _ (by omega), N (r + 8) _ (by omega), N (r + 9) _ (by omega), U (67 + o) (by omega), U (73 + o) (by omega)]
    exact ⟨a1, a2, a3, a4⟩
theorem Rl.treas {h hh : PH} {b r : Nat} {g : Nat → Int32} {w : Int32} (I : Inv b h) (hr : r = 2 ∨ r = 114) (rl : Rl h hh b r g) : Rl h (sI hh (b + r) 15 w) b r (upr g 3 w) := by
  obtain ⟨s, cd, c_stat, c_realm, c_book, c_law, c_kin, c_shi, c_roa, c_ord, c_han, c_wei, c_bag, c_pri, c_cnt, c_led, c_yea, c_log, c_rdr, c_msc, c_img⟩ := I
  obtain ⟨⟨hnt, hno⟩, _⟩ := c_realm
  obtain ⟨F1, F9, F0, F15, F16, F17, F18, F19, F14, F7, F8, RT, RO⟩ := rl
  have N : ∀ o j, o ≠ r → gI (sI hh (b + r) 15 w) (b + o) j = gI hh (b + o) j := fun o j ho => gI_n1 (by omega)
  have M : ∀ j, j ≠ 15 → gI (sI hh (b + r) 15 w) (b + r) j = gI hh (b + r) j := fun j hj => gI_n2 hj
  have U : ∀ j, j ≠ 3 → (upr g 3 w) j = g j := fun j hj => upr_n hj
  unfold Rl RealmAt RlR
  refine ⟨?_, ?_, ?_, ?_, ?_, ?_, ?_, ?_, ?_, ?_, ?_, fun k hk => ?_, fun o ho => ?_⟩
  · rw [M 1 (by omega)]; exact F1
  · rw [M 9 (by omega)]; exact F9
  · rw [M 0 (by omega), U 1 (by omega)]; exact F0
  · rw [gI_q rfl rfl, upr_q]
  · rw [M 16 (by omega), U 4 (by omega)]; exact F16
  · rw [M 17 (by omega), U 5 (by omega)]; exact F17
  · rw [M 18 (by omega), U 0 (by omega)]; exact F18
  · rw [M 19 (by omega), U 2 (by omega)]; exact F19
  · rw [M 14 (by omega), U 6 (by omega)]; exact F14
  · rw [M 7 (by omega), bs_cg (q := fun t => g (43 + t) == 1) (fun k hk => by rw [U _ (by omega)])]; exact F7
  · rw [M 8 (by omega), bs_cg (q := fun t => g (55 + t) == 1) (fun k hk => by rw [U _ (by omega)])]; exact F8
  · obtain ⟨a1, a2, a3, a4, a5⟩ := RT k hk
    rw [N (r + 1) _ (by omega), N (r + 2) _ (by omega), N (r + 3) _ (by omega), N (r + 4) _ (by omega), N (r + 5) _ (by omega), U (7 + k) (by omega), U (19 + k) (by omega), U (31 + k) (by omega)]
    exact ⟨a1, a2, a3, a4, a5⟩
  · obtain ⟨a1, a2, a3, a4⟩ := RO o ho
    rw [N (r + 6) _ (by omega), N (r + 7) _ (by omega), N (r + 8) _ (by omega), N (r + 9) _ (by omega), U (67 + o) (by omega), U (73 + o) (by omega)]
    exact ⟨a1, a2, a3, a4⟩
theorem Rl.basin {h hh : PH} {b r : Nat} {g : Nat → Int32} {w : Int32} (I : Inv b h) (hr : r = 2 ∨ r = 114) (rl : Rl h hh b r g) : Rl h (sI hh (b + r) 16 w) b r (upr g 4 w) := by
  obtain ⟨s, cd, c_stat, c_realm, c_book, c_law, c_kin, c_shi, c_roa, c_ord, c_han, c_wei, c_bag, c_pri, c_cnt, c_led, c_yea, c_log, c_rdr, c_msc, c_img⟩ := I
  obtain ⟨⟨hnt, hno⟩, _⟩ := c_realm
  obtain ⟨F1, F9, F0, F15, F16, F17, F18, F19, F14, F7, F8, RT, RO⟩ := rl
  have N : ∀ o j, o ≠ r → gI (sI hh (b + r) 16 w) (b + o) j = gI hh (b + o) j := fun o j ho => gI_n1 (by omega)
  have M : ∀ j, j ≠ 16 → gI (sI hh (b + r) 16 w) (b + r) j = gI hh (b + r) j := fun j hj => gI_n2 hj
  have U : ∀ j, j ≠ 4 → (upr g 4 w) j = g j := fun j hj => upr_n hj
  unfold Rl RealmAt RlR
  refine ⟨?_, ?_, ?_, ?_, ?_, ?_, ?_, ?_, ?_, ?_, ?_, fun k hk => ?_, fun o ho => ?_⟩
  · rw [M 1 (by omega)]; exact F1
  · rw [M 9 (by omega)]; exact F9
  · rw [M 0 (by omega), U 1 (by omega)]; exact F0
  · rw [M 15 (by omega), U 3 (by omega)]; exact F15
  · rw [gI_q rfl rfl, upr_q]
  · rw [M 17 (by omega), U 5 (by omega)]; exact F17
  · rw [M 18 (by omega), U 0 (by omega)]; exact F18
  · rw [M 19 (by omega), U 2 (by omega)]; exact F19
  · rw [M 14 (by omega), U 6 (by omega)]; exact F14
  · rw [M 7 (by omega), bs_cg (q := fun t => g (43 + t) == 1) (fun k hk => by rw [U _ (by omega)])]; exact F7
  · rw [M 8 (by omega), bs_cg (q := fun t => g (55 + t) == 1) (fun k hk => by rw [U _ (by omega)])]; exact F8
  · obtain ⟨a1, a2, a3, a4, a5⟩ := RT k hk
    rw [N (r + 1) _ (by omega), N (r + 2) _ (by omega), N (r + 3) _ (by omega), N (r + 4) _ (by omega), N (r + 5) _ (by omega), U (7 + k) (by omega), U (19 + k) (by omega), U (31 + k) (by omega)]
    exact ⟨a1, a2, a3, a4, a5⟩
  · obtain ⟨a1, a2, a3, a4⟩ := RO o ho
    rw [N (r + 6) _ (by omega), N (r + 7) _ (by omega), N (r + 8) _ (by omega), N (r + 9) _ (by omega), U (67 + o) (by omega), U (73 + o) (by omega)]
    exact ⟨a1, a2, a3, a4⟩
theorem Rl.smug {h hh : PH} {b r : Nat} {g : Nat → Int32} {w : Int32} (I : Inv b h) (hr : r = 2 ∨ r = 114) (rl : Rl h hh b r g) : Rl h (sI hh (b + r) 17 w) b r (upr g 5 w) := by
  obtain ⟨s, cd, c_stat, c_realm, c_book, c_law, c_kin, c_shi, c_roa, c_ord, c_han, c_wei, c_bag, c_pri, c_cnt, c_led, c_yea, c_log, c_rdr, c_msc, c_img⟩ := I
  obtain ⟨⟨hnt, hno⟩, _⟩ := c_realm
  obtain ⟨F1, F9, F0, F15, F16, F17, F18, F19, F14, F7, F8, RT, RO⟩ := rl
  have N : ∀ o j, o ≠ r → gI (sI hh (b + r) 17 w) (b + o) j = gI hh (b + o) j := fun o j ho => gI_n1 (by omega)
  have M : ∀ j, j ≠ 17 → gI (sI hh (b + r) 17 w) (b + r) j = gI hh (b + r) j := fun j hj => gI_n2 hj
  have U : ∀ j, j ≠ 5 → (upr g 5 w) j = g j := fun j hj => upr_n hj
  unfold Rl RealmAt RlR
  refine ⟨?_, ?_, ?_, ?_, ?_, ?_, ?_, ?_, ?_, ?_, ?_, fun k hk => ?_, fun o ho => ?_⟩
  · rw [M 1 (by omega)]; exact F1
  · rw [M 9 (by omega)]; exact F9
  · rw [M 0 (by omega), U 1 (by omega)]; exact F0
  · rw [M 15 (by omega), U 3 (by omega)]; exact F15
  · rw [M 16 (by omega), U 4 (by omega)]; exact F16
  · rw [gI_q rfl rfl, upr_q]
  · rw [M 18 (by omega), U 0 (by omega)]; exact F18
  · rw [M 19 (by omega), U 2 (by omega)]; exact F19
  · rw [M 14 (by omega), U 6 (by omega)]; exact F14
  · rw [M 7 (by omega), bs_cg (q := fun t => g (43 + t) == 1) (fun k hk => by rw [U _ (by omega)])]; exact F7
  · rw [M 8 (by omega), bs_cg (q := fun t => g (55 + t) == 1) (fun k hk => by rw [U _ (by omega)])]; exact F8
  · obtain ⟨a1, a2, a3, a4, a5⟩ := RT k hk
    rw [N (r + 1) _ (by omega), N (r + 2) _ (by omega), N (r + 3) _ (by omega), N (r + 4) _ (by omega), N (r + 5) _ (by omega), U (7 + k) (by omega), U (19 + k) (by omega), U (31 + k) (by omega)]
    exact ⟨a1, a2, a3, a4, a5⟩
  · obtain ⟨a1, a2, a3, a4⟩ := RO o ho
    rw [N (r + 6) _ (by omega), N (r + 7) _ (by omega), N (r + 8) _ (by omega), N (r + 9) _ (by omega), U (67 + o) (by omega), U (73 + o) (by omega)]
    exact ⟨a1, a2, a3, a4⟩
theorem Rl.hour {h hh : PH} {b r : Nat} {g : Nat → Int32} {w : Int32} (I : Inv b h) (hr : r = 2 ∨ r = 114) (rl : Rl h hh b r g) : Rl h (sI hh (b + r) 18 w) b r (upr g 0 w) := by
  obtain ⟨s, cd, c_stat, c_realm, c_book, c_law, c_kin, c_shi, c_roa, c_ord, c_han, c_wei, c_bag, c_pri, c_cnt, c_led, c_yea, c_log, c_rdr, c_msc, c_img⟩ := I
  obtain ⟨⟨hnt, hno⟩, _⟩ := c_realm
  obtain ⟨F1, F9, F0, F15, F16, F17, F18, F19, F14, F7, F8, RT, RO⟩ := rl
  have N : ∀ o j, o ≠ r → gI (sI hh (b + r) 18 w) (b + o) j = gI hh (b + o) j := fun o j ho => gI_n1 (by omega)
  have M : ∀ j, j ≠ 18 → gI (sI hh (b + r) 18 w) (b + r) j = gI hh (b + r) j := fun j hj => gI_n2 hj
  have U : ∀ j, j ≠ 0 → (upr g 0 w) j = g j := fun j hj => upr_n hj
  unfold Rl RealmAt RlR
  refine ⟨?_, ?_, ?_, ?_, ?_, ?_, ?_, ?_, ?_, ?_, ?_, fun k hk => ?_, fun o ho => ?_⟩
  · rw [M 1 (by omega)]; exact F1
  · rw [M 9 (by omega)]; exact F9
  · rw [M 0 (by omega), U 1 (by omega)]; exact F0
  · rw [M 15 (by omega), U 3 (by omega)]; exact F15
  · rw [M 16 (by omega), U 4 (by omega)]; exact F16
  · rw [M 17 (by omega), U 5 (by omega)]; exact F17
  · rw [gI_q rfl rfl, upr_q]
  · rw [M 19 (by omega), U 2 (by omega)]; exact F19
  · rw [M 14 (by omega), U 6 (by omega)]; exact F14
  · rw [M 7 (by omega), bs_cg (q := fun t => g (43 + t) == 1) (fun k hk => by rw [U _ (by omega)])]; exact F7
  · rw [M 8 (by omega), bs_cg (q := fun t => g (55 + t) == 1) (fun k hk => by rw [U _ (by omega)])]; exact F8
  · obtain ⟨a1, a2, a3, a4, a5⟩ := RT k hk
    rw [N (r + 1) _ (by omega), N (r + 2) _ (by omega), N (r + 3) _ (by omega), N (r + 4) _ (by omega), N (r + 5) _ (by omega), U (7 + k) (by omega), U (19 + k) (by omega), U (31 + k) (by omega)]
    exact ⟨a1, a2, a3, a4, a5⟩
  · obtain ⟨a1, a2, a3, a4⟩ := RO o ho
    rw [N (r + 6) _ (by omega), N (r + 7) _ (by omega), N (r + 8) _ (by omega), N (r + 9) _ (by omega), U (67 + o) (by omega), U (73 + o) (by omega)]
    exact ⟨a1, a2, a3, a4⟩
theorem Rl.lines {h hh : PH} {b r : Nat} {g : Nat → Int32} {w : Int32} (I : Inv b h) (hr : r = 2 ∨ r = 114) (rl : Rl h hh b r g) : Rl h (sI hh (b + r) 19 w) b r (upr g 2 w) := by
  obtain ⟨s, cd, c_stat, c_realm, c_book, c_law, c_kin, c_shi, c_roa, c_ord, c_han, c_wei, c_bag, c_pri, c_cnt, c_led, c_yea, c_log, c_rdr, c_msc, c_img⟩ := I
  obtain ⟨⟨hnt, hno⟩, _⟩ := c_realm
  obtain ⟨F1, F9, F0, F15, F16, F17, F18, F19, F14, F7, F8, RT, RO⟩ := rl
  have N : ∀ o j, o ≠ r → gI (sI hh (b + r) 19 w) (b + o) j = gI hh (b + o) j := fun o j ho => gI_n1 (by omega)
  have M : ∀ j, j ≠ 19 → gI (sI hh (b + r) 19 w) (b + r) j = gI hh (b + r) j := fun j hj => gI_n2 hj
  have U : ∀ j, j ≠ 2 → (upr g 2 w) j = g j := fun j hj => upr_n hj
  unfold Rl RealmAt RlR
  refine ⟨?_, ?_, ?_, ?_, ?_, ?_, ?_, ?_, ?_, ?_, ?_, fun k hk => ?_, fun o ho => ?_⟩
  · rw [M 1 (by omega)]; exact F1
  · rw [M 9 (by omega)]; exact F9
  · rw [M 0 (by omega), U 1 (by omega)]; exact F0
  · rw [M 15 (by omega), U 3 (by omega)]; exact F15
  · rw [M 16 (by omega), U 4 (by omega)]; exact F16
  · rw [M 17 (by omega), U 5 (by omega)]; exact F17
  · rw [M 18 (by omega), U 0 (by omega)]; exact F18
  · rw [gI_q rfl rfl, upr_q]
  · rw [M 14 (by omega), U 6 (by omega)]; exact F14
  · rw [M 7 (by omega), bs_cg (q := fun t => g (43 + t) == 1) (fun k hk => by rw [U _ (by omega)])]; exact F7
  · rw [M 8 (by omega), bs_cg (q := fun t => g (55 + t) == 1) (fun k hk => by rw [U _ (by omega)])]; exact F8
  · obtain ⟨a1, a2, a3, a4, a5⟩ := RT k hk
    rw [N (r + 1) _ (by omega), N (r + 2) _ (by omega), N (r + 3) _ (by omega), N (r + 4) _ (by omega), N (r + 5) _ (by omega), U (7 + k) (by omega), U (19 + k) (by omega), U (31 + k) (by omega)]
    exact ⟨a1, a2, a3, a4, a5⟩
  · obtain ⟨a1, a2, a3, a4⟩ := RO o ho
    rw [N (r + 6) _ (by omega), N (r + 7) _ (by omega), N (r + 8) _ (by omega), N (r + 9) _ (by omega), U (67 + o) (by omega), U (73 + o) (by omega)]
    exact ⟨a1, a2, a3, a4⟩
theorem Rl.doors {h hh : PH} {b r : Nat} {g : Nat → Int32} {w : Int32} {v : Int32} (I : Inv b h) (hr : r = 2 ∨ r = 114) (rl : Rl h hh b r g) (hv : v = 15 &&& (w ^^^ (-1))) : Rl h (sI hh (b + r) 14 v) b r (upr g 6 w) := by
  obtain ⟨s, cd, c_stat, c_realm, c_book, c_law, c_kin, c_shi, c_roa, c_ord, c_han, c_wei, c_bag, c_pri, c_cnt, c_led, c_yea, c_log, c_rdr, c_msc, c_img⟩ := I
  obtain ⟨⟨hnt, hno⟩, _⟩ := c_realm
  obtain ⟨F1, F9, F0, F15, F16, F17, F18, F19, F14, F7, F8, RT, RO⟩ := rl
  have N : ∀ o j, o ≠ r → gI (sI hh (b + r) 14 v) (b + o) j = gI hh (b + o) j := fun o j ho => gI_n1 (by omega)
  have M : ∀ j, j ≠ 14 → gI (sI hh (b + r) 14 v) (b + r) j = gI hh (b + r) j := fun j hj => gI_n2 hj
  have U : ∀ j, j ≠ 6 → (upr g 6 w) j = g j := fun j hj => upr_n hj
  unfold Rl RealmAt RlR
  refine ⟨?_, ?_, ?_, ?_, ?_, ?_, ?_, ?_, ?_, ?_, ?_, fun k hk => ?_, fun o ho => ?_⟩
  · rw [M 1 (by omega)]; exact F1
  · rw [M 9 (by omega)]; exact F9
  · rw [M 0 (by omega), U 1 (by omega)]; exact F0
  · rw [M 15 (by omega), U 3 (by omega)]; exact F15
  · rw [M 16 (by omega), U 4 (by omega)]; exact F16
  · rw [M 17 (by omega), U 5 (by omega)]; exact F17
  · rw [M 18 (by omega), U 0 (by omega)]; exact F18
  · rw [M 19 (by omega), U 2 (by omega)]; exact F19
  · rw [gI_q rfl rfl, upr_q]; exact hv
  · rw [M 7 (by omega), bs_cg (q := fun t => g (43 + t) == 1) (fun k hk => by rw [U _ (by omega)])]; exact F7
  · rw [M 8 (by omega), bs_cg (q := fun t => g (55 + t) == 1) (fun k hk => by rw [U _ (by omega)])]; exact F8
  · obtain ⟨a1, a2, a3, a4, a5⟩ := RT k hk
    rw [N (r + 1) _ (by omega), N (r + 2) _ (by omega), N (r + 3) _ (by omega), N (r + 4) _ (by omega), N (r + 5) _ (by omega), U (7 + k) (by omega), U (19 + k) (by omega), U (31 + k) (by omega)]
    exact ⟨a1, a2, a3, a4, a5⟩
  · obtain ⟨a1, a2, a3, a4⟩ := RO o ho
    rw [N (r + 6) _ (by omega), N (r + 7) _ (by omega), N (r + 8) _ (by omega), N (r + 9) _ (by omega), U (67 + o) (by omega), U (73 + o) (by omega)]
    exact ⟨a1, a2, a3, a4⟩
theorem Rl.out {h hh : PH} {b r : Nat} {g : Nat → Int32} {w : Int32} {v : Int32} {t : Nat} (I : Inv b h) (hr : r = 2 ∨ r = 114) (rl : Rl h hh b r g) (ht : t < ntOf h b) (hv : v = nI (bs (ntOf h b) (fun s => upr g (43 + t) w (43 + s) == 1))) : Rl h (sI hh (b + r) 7 v) b r (upr g (43 + t) w) := by
  obtain ⟨s, cd, c_stat, c_realm, c_book, c_law, c_kin, c_shi, c_roa, c_ord, c_han, c_wei, c_bag, c_pri, c_cnt, c_led, c_yea, c_log, c_rdr, c_msc, c_img⟩ := I
  obtain ⟨⟨hnt, hno⟩, _⟩ := c_realm
  obtain ⟨F1, F9, F0, F15, F16, F17, F18, F19, F14, F7, F8, RT, RO⟩ := rl
  have N : ∀ o j, o ≠ r → gI (sI hh (b + r) 7 v) (b + o) j = gI hh (b + o) j := fun o j ho => gI_n1 (by omega)
  have M : ∀ j, j ≠ 7 → gI (sI hh (b + r) 7 v) (b + r) j = gI hh (b + r) j := fun j hj => gI_n2 hj
  have U : ∀ j, j ≠ 43 + t → (upr g (43 + t) w) j = g j := fun j hj => upr_n hj
  unfold Rl RealmAt RlR
  refine ⟨?_, ?_, ?_, ?_, ?_, ?_, ?_, ?_, ?_, ?_, ?_, fun k hk => ?_, fun o ho => ?_⟩
  · rw [M 1 (by omega)]; exact F1
  · rw [M 9 (by omega)]; exact F9
  · rw [M 0 (by omega), U 1 (by omega)]; exact F0
  · rw [M 15 (by omega), U 3 (by omega)]; exact F15
  · rw [M 16 (by omega), U 4 (by omega)]; exact F16
  · rw [M 17 (by omega), U 5 (by omega)]; exact F17
  · rw [M 18 (by omega), U 0 (by omega)]; exact F18
  · rw [M 19 (by omega), U 2 (by omega)]; exact F19
  · rw [M 14 (by omega), U 6 (by omega)]; exact F14
  · rw [gI_q rfl rfl]; exact hv
  · rw [M 8 (by omega), bs_cg (q := fun t => g (55 + t) == 1) (fun k hk => by rw [U _ (by omega)])]; exact F8
  · obtain ⟨a1, a2, a3, a4, a5⟩ := RT k hk
    rw [N (r + 1) _ (by omega), N (r + 2) _ (by omega), N (r + 3) _ (by omega), N (r + 4) _ (by omega), N (r + 5) _ (by omega), U (7 + k) (by omega), U (19 + k) (by omega), U (31 + k) (by omega)]
    exact ⟨a1, a2, a3, a4, a5⟩
  · obtain ⟨a1, a2, a3, a4⟩ := RO o ho
    rw [N (r + 6) _ (by omega), N (r + 7) _ (by omega), N (r + 8) _ (by omega), N (r + 9) _ (by omega), U (67 + o) (by omega), U (73 + o) (by omega)]
    exact ⟨a1, a2, a3, a4⟩
theorem Rl.bond {h hh : PH} {b r : Nat} {g : Nat → Int32} {w : Int32} {v : Int32} {t : Nat} (I : Inv b h) (hr : r = 2 ∨ r = 114) (rl : Rl h hh b r g) (ht : t < ntOf h b) (hv : v = nI (bs (ntOf h b) (fun s => upr g (55 + t) w (55 + s) == 1))) : Rl h (sI hh (b + r) 8 v) b r (upr g (55 + t) w) := by
  obtain ⟨s, cd, c_stat, c_realm, c_book, c_law, c_kin, c_shi, c_roa, c_ord, c_han, c_wei, c_bag, c_pri, c_cnt, c_led, c_yea, c_log, c_rdr, c_msc, c_img⟩ := I
  obtain ⟨⟨hnt, hno⟩, _⟩ := c_realm
  obtain ⟨F1, F9, F0, F15, F16, F17, F18, F19, F14, F7, F8, RT, RO⟩ := rl
  have N : ∀ o j, o ≠ r → gI (sI hh (b + r) 8 v) (b + o) j = gI hh (b + o) j := fun o j ho => gI_n1 (by omega)
  have M : ∀ j, j ≠ 8 → gI (sI hh (b + r) 8 v) (b + r) j = gI hh (b + r) j := fun j hj => gI_n2 hj
  have U : ∀ j, j ≠ 55 + t → (upr g (55 + t) w) j = g j := fun j hj => upr_n hj
  unfold Rl RealmAt RlR
  refine ⟨?_, ?_, ?_, ?_, ?_, ?_, ?_, ?_, ?_, ?_, ?_, fun k hk => ?_, fun o ho => ?_⟩
  · rw [M 1 (by omega)]; exact F1
  · rw [M 9 (by omega)]; exact F9
  · rw [M 0 (by omega), U 1 (by omega)]; exact F0
  · rw [M 15 (by omega), U 3 (by omega)]; exact F15
  · rw [M 16 (by omega), U 4 (by omega)]; exact F16
  · rw [M 17 (by omega), U 5 (by omega)]; exact F17
  · rw [M 18 (by omega), U 0 (by omega)]; exact F18
  · rw [M 19 (by omega), U 2 (by omega)]; exact F19
  · rw [M 14 (by omega), U 6 (by omega)]; exact F14
  · rw [M 7 (by omega), bs_cg (q := fun t => g (43 + t) == 1) (fun k hk => by rw [U _ (by omega)])]; exact F7
  · rw [gI_q rfl rfl]; exact hv
  · obtain ⟨a1, a2, a3, a4, a5⟩ := RT k hk
    rw [N (r + 1) _ (by omega), N (r + 2) _ (by omega), N (r + 3) _ (by omega), N (r + 4) _ (by omega), N (r + 5) _ (by omega), U (7 + k) (by omega), U (19 + k) (by omega), U (31 + k) (by omega)]
    exact ⟨a1, a2, a3, a4, a5⟩
  · obtain ⟨a1, a2, a3, a4⟩ := RO o ho
    rw [N (r + 6) _ (by omega), N (r + 7) _ (by omega), N (r + 8) _ (by omega), N (r + 9) _ (by omega), U (67 + o) (by omega), U (73 + o) (by omega)]
    exact ⟨a1, a2, a3, a4⟩
theorem RowB.coin {hb nt no t : Nat} {g : Nat → Int32} {w : Int32} (hnt : nt ≤ 12) (hno : no ≤ 6) (c : RowB hb nt no g) (ht : t < nt) (hw : ∃ x, x ≤ 9999 ∧ w = nI x) : RowB hb nt no (upr g (7 + t) w) := by
  obtain ⟨c1, c2, c3, c4, c5⟩ := c
  have U : ∀ j, j ≠ 7 + t → upr g (7 + t) w j = g j := fun j hj => upr_n hj
  refine ⟨?_, ?_, ?_, fun k hk => ?_, fun o ho => ?_⟩
  · rw [U 0 (by omega)]; exact c1
  · rw [U 2 (by omega)]; exact c2
  · rw [U 6 (by omega)]; exact c3
  · obtain ⟨a0, a1, a2, a3, a4⟩ := c4 k hk
    rw [U (19 + k) (by omega), U (31 + k) (by omega), U (43 + k) (by omega), U (55 + k) (by omega)]
    refine ⟨?_, a1, a2, a3, a4⟩
    by_cases q : k = t
    · subst q; rw [upr_q]; exact hw
    · rw [U _ (by omega)]; exact a0
  · rw [U (67 + o) (by omega), U (73 + o) (by omega)]; exact c5 o ho
theorem RowB.wet {hb nt no t : Nat} {g : Nat → Int32} {w : Int32} (hnt : nt ≤ 12) (hno : no ≤ 6) (c : RowB hb nt no g) (ht : t < nt) (hw : ∃ x, x ≤ 99 ∧ w = nI x) : RowB hb nt no (upr g (19 + t) w) := by
  obtain ⟨c1, c2, c3, c4, c5⟩ := c
  have U : ∀ j, j ≠ 19 + t → upr g (19 + t) w j = g j := fun j hj => upr_n hj
  refine ⟨?_, ?_, ?_, fun k hk => ?_, fun o ho => ?_⟩
  · rw [U 0 (by omega)]; exact c1
  · rw [U 2 (by omega)]; exact c2
  · rw [U 6 (by omega)]; exact c3
  · obtain ⟨a0, a1, a2, a3, a4⟩ := c4 k hk
    rw [U (7 + k) (by omega), U (31 + k) (by omega), U (43 + k) (by omega), U (55 + k) (by omega)]
    refine ⟨a0, ?_, a2, a3, a4⟩
    by_cases q : k = t
    · subst q; rw [upr_q]; exact hw
    · rw [U _ (by omega)]; exact a1
  · rw [U (67 + o) (by omega), U (73 + o) (by omega)]; exact c5 o ho
theorem RowB.at {hb nt no t : Nat} {g : Nat → Int32} {w : Int32} (hnt : nt ≤ 12) (hno : no ≤ 6) (c : RowB hb nt no g) (ht : t < nt) (hw : ∃ x, x ≤ 4 ∧ w = nI x) : RowB hb nt no (upr g (31 + t) w) := by
  obtain ⟨c1, c2, c3, c4, c5⟩ := c
  have U : ∀ j, j ≠ 31 + t → upr g (31 + t) w j = g j := fun j hj => upr_n hj
  refine ⟨?_, ?_, ?_, fun k hk => ?_, fun o ho => ?_⟩
  · rw [U 0 (by omega)]; exact c1
  · rw [U 2 (by omega)]; exact c2
  · rw [U 6 (by omega)]; exact c3
  · obtain ⟨a0, a1, a2, a3, a4⟩ := c4 k hk
    rw [U (7 + k) (by omega), U (19 + k) (by omega), U (43 + k) (by omega), U (55 + k) (by omega)]
    refine ⟨a0, a1, ?_, a3, a4⟩
    by_cases q : k = t
    · subst q; rw [upr_q]; exact hw
    · rw [U _ (by omega)]; exact a2
  · rw [U (67 + o) (by omega), U (73 + o) (by omega)]; exact c5 o ho
theorem RowB.out {hb nt no t : Nat} {g : Nat → Int32} {w : Int32} (hnt : nt ≤ 12) (hno : no ≤ 6) (c : RowB hb nt no g) (ht : t < nt) (hw : w = 0 ∨ w = 1) : RowB hb nt no (upr g (43 + t) w) := by
  obtain ⟨c1, c2, c3, c4, c5⟩ := c
  have U : ∀ j, j ≠ 43 + t → upr g (43 + t) w j = g j := fun j hj => upr_n hj
  refine ⟨?_, ?_, ?_, fun k hk => ?_, fun o ho => ?_⟩
  · rw [U 0 (by omega)]; exact c1
  · rw [U 2 (by omega)]; exact c2
  · rw [U 6 (by omega)]; exact c3
  · obtain ⟨a0, a1, a2, a3, a4⟩ := c4 k hk
    rw [U (7 + k) (by omega), U (19 + k) (by omega), U (31 + k) (by omega), U (55 + k) (by omega)]
    refine ⟨a0, a1, a2, ?_, a4⟩
    by_cases q : k = t
    · subst q; rw [upr_q]; exact hw
    · rw [U _ (by omega)]; exact a3
  · rw [U (67 + o) (by omega), U (73 + o) (by omega)]; exact c5 o ho
theorem RowB.bond {hb nt no t : Nat} {g : Nat → Int32} {w : Int32} (hnt : nt ≤ 12) (hno : no ≤ 6) (c : RowB hb nt no g) (ht : t < nt) (hw : w = 0 ∨ w = 1) : RowB hb nt no (upr g (55 + t) w) := by
  obtain ⟨c1, c2, c3, c4, c5⟩ := c
  have U : ∀ j, j ≠ 55 + t → upr g (55 + t) w j = g j := fun j hj => upr_n hj
  refine ⟨?_, ?_, ?_, fun k hk => ?_, fun o ho => ?_⟩
  · rw [U 0 (by omega)]; exact c1
  · rw [U 2 (by omega)]; exact c2
  · rw [U 6 (by omega)]; exact c3
  · obtain ⟨a0, a1, a2, a3, a4⟩ := c4 k hk
    rw [U (7 + k) (by omega), U (19 + k) (by omega), U (31 + k) (by omega), U (43 + k) (by omega)]
    refine ⟨a0, a1, a2, a3, ?_⟩
    by_cases q : k = t
    · subst q; rw [upr_q]; exact hw
    · rw [U _ (by omega)]; exact a4
  · rw [U (67 + o) (by omega), U (73 + o) (by omega)]; exact c5 o ho
theorem RowB.gate {hb nt no t : Nat} {g : Nat → Int32} {w : Int32} (hnt : nt ≤ 12) (hno : no ≤ 6) (c : RowB hb nt no g) (ht : t < no) (hw : ∃ x, x < 4 ∧ w = nI x) : RowB hb nt no (upr g (67 + t) w) := by
  obtain ⟨c1, c2, c3, c4, c5⟩ := c
  have U : ∀ j, j ≠ 67 + t → upr g (67 + t) w j = g j := fun j hj => upr_n hj
  refine ⟨?_, ?_, ?_, fun k hk => ?_, fun o ho => ?_⟩
  · rw [U 0 (by omega)]; exact c1
  · rw [U 2 (by omega)]; exact c2
  · rw [U 6 (by omega)]; exact c3
  · rw [U (7 + k) (by omega), U (19 + k) (by omega), U (31 + k) (by omega), U (43 + k) (by omega), U (55 + k) (by omega)]; exact c4 k hk
  · obtain ⟨a0, a1⟩ := c5 o ho
    rw [U (73 + o) (by omega)]
    refine ⟨?_, a1⟩
    by_cases q : o = t
    · subst q; rw [upr_q]; exact hw
    · rw [U _ (by omega)]; exact a0
theorem RowB.tired {hb nt no t : Nat} {g : Nat → Int32} {w : Int32} (hnt : nt ≤ 12) (hno : no ≤ 6) (c : RowB hb nt no g) (ht : t < no) (hw : ∃ x, x ≤ 9 ∧ w = nI x) : RowB hb nt no (upr g (73 + t) w) := by
  obtain ⟨c1, c2, c3, c4, c5⟩ := c
  have U : ∀ j, j ≠ 73 + t → upr g (73 + t) w j = g j := fun j hj => upr_n hj
  refine ⟨?_, ?_, ?_, fun k hk => ?_, fun o ho => ?_⟩
  · rw [U 0 (by omega)]; exact c1
  · rw [U 2 (by omega)]; exact c2
  · rw [U 6 (by omega)]; exact c3
  · rw [U (7 + k) (by omega), U (19 + k) (by omega), U (31 + k) (by omega), U (43 + k) (by omega), U (55 + k) (by omega)]; exact c4 k hk
  · obtain ⟨a0, a1⟩ := c5 o ho
    rw [U (67 + o) (by omega)]
    refine ⟨a0, ?_⟩
    by_cases q : o = t
    · subst q; rw [upr_q]; exact hw
    · rw [U _ (by omega)]; exact a1
theorem RowB.lines {hb nt no : Nat} {g : Nat → Int32} {w : Int32} (hnt : nt ≤ 12) (hno : no ≤ 6) (c : RowB hb nt no g) (hw : ∃ x, x ≤ 150 ∧ w = nI x) : RowB hb nt no (upr g (2) w) := by
  obtain ⟨c1, c2, c3, c4, c5⟩ := c
  have U : ∀ j, j ≠ 2 → upr g (2) w j = g j := fun j hj => upr_n hj
  refine ⟨?_, ?_, ?_, fun k hk => ?_, fun o ho => ?_⟩
  · rw [U 0 (by omega)]; exact c1
  · rw [upr_q]; exact hw
  · rw [U 6 (by omega)]; exact c3
  · rw [U (7 + k) (by omega), U (19 + k) (by omega), U (31 + k) (by omega), U (43 + k) (by omega), U (55 + k) (by omega)]; exact c4 k hk
  · rw [U (67 + o) (by omega), U (73 + o) (by omega)]; exact c5 o ho
theorem RowB.closed {hb nt no : Nat} {g : Nat → Int32} {w : Int32} (hnt : nt ≤ 12) (hno : no ≤ 6) (c : RowB hb nt no g) (hw : ∃ x, x < 16 ∧ w = nI x) : RowB hb nt no (upr g (6) w) := by
  obtain ⟨c1, c2, c3, c4, c5⟩ := c
  have U : ∀ j, j ≠ 6 → upr g (6) w j = g j := fun j hj => upr_n hj
  refine ⟨?_, ?_, ?_, fun k hk => ?_, fun o ho => ?_⟩
  · rw [U 0 (by omega)]; exact c1
  · rw [U 2 (by omega)]; exact c2
  · rw [upr_q]; exact hw
  · rw [U (7 + k) (by omega), U (19 + k) (by omega), U (31 + k) (by omega), U (43 + k) (by omega), U (55 + k) (by omega)]; exact c4 k hk
  · rw [U (67 + o) (by omega), U (73 + o) (by omega)]; exact c5 o ho
theorem RowB.draws {hb nt no : Nat} {g : Nat → Int32} {w : Int32} (hnt : nt ≤ 12) (hno : no ≤ 6) (c : RowB hb nt no g)  : RowB hb nt no (upr g (1) w) := by
  obtain ⟨c1, c2, c3, c4, c5⟩ := c
  have U : ∀ j, j ≠ 1 → upr g (1) w j = g j := fun j hj => upr_n hj
  refine ⟨?_, ?_, ?_, fun k hk => ?_, fun o ho => ?_⟩
  · rw [U 0 (by omega)]; exact c1
  · rw [U 2 (by omega)]; exact c2
  · rw [U 6 (by omega)]; exact c3
  · rw [U (7 + k) (by omega), U (19 + k) (by omega), U (31 + k) (by omega), U (43 + k) (by omega), U (55 + k) (by omega)]; exact c4 k hk
  · rw [U (67 + o) (by omega), U (73 + o) (by omega)]; exact c5 o ho
theorem RowB.treas {hb nt no : Nat} {g : Nat → Int32} {w : Int32} (hnt : nt ≤ 12) (hno : no ≤ 6) (c : RowB hb nt no g)  : RowB hb nt no (upr g (3) w) := by
  obtain ⟨c1, c2, c3, c4, c5⟩ := c
  have U : ∀ j, j ≠ 3 → upr g (3) w j = g j := fun j hj => upr_n hj
  refine ⟨?_, ?_, ?_, fun k hk => ?_, fun o ho => ?_⟩
  · rw [U 0 (by omega)]; exact c1
  · rw [U 2 (by omega)]; exact c2
  · rw [U 6 (by omega)]; exact c3
  · rw [U (7 + k) (by omega), U (19 + k) (by omega), U (31 + k) (by omega), U (43 + k) (by omega), U (55 + k) (by omega)]; exact c4 k hk
  · rw [U (67 + o) (by omega), U (73 + o) (by omega)]; exact c5 o ho
theorem RowB.basin {hb nt no : Nat} {g : Nat → Int32} {w : Int32} (hnt : nt ≤ 12) (hno : no ≤ 6) (c : RowB hb nt no g)  : RowB hb nt no (upr g (4) w) := by
  obtain ⟨c1, c2, c3, c4, c5⟩ := c
  have U : ∀ j, j ≠ 4 → upr g (4) w j = g j := fun j hj => upr_n hj
  refine ⟨?_, ?_, ?_, fun k hk => ?_, fun o ho => ?_⟩
  · rw [U 0 (by omega)]; exact c1
  · rw [U 2 (by omega)]; exact c2
  · rw [U 6 (by omega)]; exact c3
  · rw [U (7 + k) (by omega), U (19 + k) (by omega), U (31 + k) (by omega), U (43 + k) (by omega), U (55 + k) (by omega)]; exact c4 k hk
  · rw [U (67 + o) (by omega), U (73 + o) (by omega)]; exact c5 o ho
theorem RowB.smug {hb nt no : Nat} {g : Nat → Int32} {w : Int32} (hnt : nt ≤ 12) (hno : no ≤ 6) (c : RowB hb nt no g)  : RowB hb nt no (upr g (5) w) := by
  obtain ⟨c1, c2, c3, c4, c5⟩ := c
  have U : ∀ j, j ≠ 5 → upr g (5) w j = g j := fun j hj => upr_n hj
  refine ⟨?_, ?_, ?_, fun k hk => ?_, fun o ho => ?_⟩
  · rw [U 0 (by omega)]; exact c1
  · rw [U 2 (by omega)]; exact c2
  · rw [U 6 (by omega)]; exact c3
  · rw [U (7 + k) (by omega), U (19 + k) (by omega), U (31 + k) (by omega), U (43 + k) (by omega), U (55 + k) (by omega)]; exact c4 k hk
  · rw [U (67 + o) (by omega), U (73 + o) (by omega)]; exact c5 o ho
theorem RowB.hour {hb hc nt no : Nat} {g : Nat → Int32} {w : Int32} (c : RowB hb nt no g) (hw : ∃ x, x ≤ hc ∧ w = nI x) : RowB hc nt no (upr g 0 w) := by
  obtain ⟨c1, c2, c3, c4, c5⟩ := c
  have U : ∀ j, j ≠ 0 → upr g 0 w j = g j := fun j hj => upr_n hj
  refine ⟨by rw [upr_q]; exact hw, by rw [U 2 (by omega)]; exact c2, by rw [U 6 (by omega)]; exact c3, fun k hk => ?_, fun o ho => ?_⟩
  · rw [U (7 + k) (by omega), U (19 + k) (by omega), U (31 + k) (by omega), U (43 + k) (by omega), U (55 + k) (by omega)]; exact c4 k hk
  · rw [U (67 + o) (by omega), U (73 + o) (by omega)]; exact c5 o ho
