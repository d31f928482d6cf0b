/-! ===== THE RELATION IN THE HEAP ===== -/
def ntOf (h : PH) (b : Nat) : Nat := (gI h (b + 131) 6).toNatClampNeg
def noOf (h : PH) (b : Nat) : Nat := (gI h (b + 131) 7).toNatClampNeg
def U_stat : SL := [(131, 6, 8), (135, 0, 12), (136, 0, 12), (137, 0, 6), (138, 0, 6)]
def C_stat (h : PH) (b : Nat) : Prop := gI h (b + 131) 6 = nI (ntOf h b) ∧ gI h (b + 131) 7 = nI (noOf h b) ∧ StatOK (ntOf h b) (noOf h b) (gI h (b + 135)) (gI h (b + 136)) (gI h (b + 137)) (gI h (b + 138))
theorem C_stat.cg {L : SL} {b : Nat} {h h2 : PH} (t : Sn L b h h2) (hd : disj L U_stat = true) (c : C_stat h b) : C_stat h2 b := by
  have e6 := t.I (o := 131) (j := 6) (disj_ok hd (inL_in (o := 131) (lo := 6) (hi := 8) (by decide) (by omega) (by omega)))
  have e7 := t.I (o := 131) (j := 7) (disj_ok hd (inL_in (o := 131) (lo := 6) (hi := 8) (by decide) (by omega) (by omega)))
  unfold C_stat ntOf noOf at *
  rw [e6, e7]
  exact ⟨c.1, c.2.1, c.2.2.cg (fun j hj => t.I (disj_ok hd (inL_in (o := 135) (lo := 0) (hi := 12) (by decide) (by omega) hj))) (fun j hj => t.I (disj_ok hd (inL_in (o := 136) (lo := 0) (hi := 12) (by decide) (by omega) hj))) (fun j hj => t.I (disj_ok hd (inL_in (o := 137) (lo := 0) (hi := 6) (by decide) (by omega) hj))) (fun j hj => t.I (disj_ok hd (inL_in (o := 138) (lo := 0) (hi := 6) (by decide) (by omega) hj)))⟩
def U_realm : SL := [(131, 6, 8), (135, 0, 12), (136, 0, 12), (137, 0, 6), (138, 0, 6), (2, 0, 20), (3, 0, 12), (4, 0, 12), (5, 0, 12), (6, 0, 12), (7, 0, 12), (8, 0, 6), (9, 0, 6), (10, 0, 6), (11, 0, 6), (132, 0, 79)]
def C_realm (h : PH) (b : Nat) : Prop := (ntOf h b ≤ 12 ∧ noOf h b ≤ 6) ∧ RowOK (ntOf h b) (noOf h b) (gI h (b + 132)) ∧ RealmAt h b 2 (ntOf h b) (noOf h b) (gI h (b + 135)) (gI h (b + 136)) (gI h (b + 137)) (gI h (b + 138)) (gI h (b + 132))
theorem C_realm.cg {L : SL} {b : Nat} {h h2 : PH} (t : Sn L b h h2) (hd : disj L U_realm = true) (c : C_realm h b) : C_realm h2 b := by
  have e6 := t.I (o := 131) (j := 6) (disj_ok hd (inL_in (o := 131) (lo := 6) (hi := 8) (by decide) (by omega) (by omega)))
  have e7 := t.I (o := 131) (j := 7) (disj_ok hd (inL_in (o := 131) (lo := 6) (hi := 8) (by decide) (by omega) (by omega)))
  unfold C_realm ntOf noOf at *
  rw [e6, e7]
  refine ⟨c.1, c.2.1.cg c.1.1 c.1.2 (fun j hj => t.I (disj_ok hd (inL_in (o := 132) (lo := 0) (hi := 79) (by decide) (by omega) hj))), ?_⟩
  exact RlR.cg c.1.1 c.1.2 (fun j hj => t.I (disj_ok hd (inL_in (o := 2) (lo := 0) (hi := 20) (by decide) (by omega) hj))) (fun j hj => t.I (disj_ok hd (inL_in (o := 3) (lo := 0) (hi := 12) (by decide) (by omega) hj))) (fun j hj => t.I (disj_ok hd (inL_in (o := 4) (lo := 0) (hi := 12) (by decide) (by omega) hj))) (fun j hj => t.I (disj_ok hd (inL_in (o := 5) (lo := 0) (hi := 12) (by decide) (by omega) hj))) (fun j hj => t.I (disj_ok hd (inL_in (o := 6) (lo := 0) (hi := 12) (by decide) (by omega) hj))) (fun j hj => t.I (disj_ok hd (inL_in (o := 7) (lo := 0) (hi := 12) (by decide) (by omega) hj))) (fun j hj => t.I (disj_ok hd (inL_in (o := 8) (lo := 0) (hi := 6) (by decide) (by omega) hj))) (fun j hj => t.I (disj_ok hd (inL_in (o := 9) (lo := 0) (hi := 6) (by decide) (by omega) hj))) (fun j hj => t.I (disj_ok hd (inL_in (o := 10) (lo := 0) (hi := 6) (by decide) (by omega) hj))) (fun j hj => t.I (disj_ok hd (inL_in (o := 11) (lo := 0) (hi := 6) (by decide) (by omega) hj))) (fun j hj => t.I (disj_ok hd (inL_in (o := 135) (lo := 0) (hi := 12) (by decide) (by omega) hj))) (fun j hj => t.I (disj_ok hd (inL_in (o := 136) (lo := 0) (hi := 12) (by decide) (by omega) hj))) (fun j hj => t.I (disj_ok hd (inL_in (o := 137) (lo := 0) (hi := 6) (by decide) (by omega) hj))) (fun j hj => t.I (disj_ok hd (inL_in (o := 138) (lo := 0) (hi := 6) (by decide) (by omega) hj))) (fun j hj => t.I (disj_ok hd (inL_in (o := 132) (lo := 0) (hi := 79) (by decide) (by omega) hj))) c.2.2
def U_book : SL := [(12, 0, 600), (139, 0, 600)]
def C_book (h : PH) (b : Nat) : Prop := BookR (gI h (b + 12)) (gI h (b + 139))
theorem C_book.cg {L : SL} {b : Nat} {h h2 : PH} (t : Sn L b h h2) (hd : disj L U_book = true) (c : C_book h b) : C_book h2 b := by
  exact BookR.cg (fun j hj => t.I (disj_ok hd (inL_in (o := 12) (lo := 0) (hi := 600) (by decide) (by omega) hj))) (fun j hj => t.I (disj_ok hd (inL_in (o := 139) (lo := 0) (hi := 600) (by decide) (by omega) hj))) c
def U_law : SL := [(13, 2, 3), (14, 0, 3), (15, 0, 64), (16, 0, 400), (142, 0, 1), (143, 0, 16), (144, 0, 16), (145, 0, 16), (146, 0, 16), (147, 0, 400), (148, 0, 400)]
def C_law (h : PH) (b : Nat) : Prop := LawR (gI h (b + 13) 2) (gI h (b + 14)) (gI h (b + 15)) (gI h (b + 16)) (gI h (b + 142) 0) (gI h (b + 143)) (gI h (b + 144)) (gI h (b + 145)) (gI h (b + 146)) (gI h (b + 147)) (gI h (b + 148))
theorem C_law.cg {L : SL} {b : Nat} {h h2 : PH} (t : Sn L b h h2) (hd : disj L U_law = true) (c : C_law h b) : C_law h2 b := by
  unfold C_law at *
  rw [t.I (o := 13) (j := 2) (disj_ok hd (inL_in (o := 13) (lo := 2) (hi := 3) (by decide) (by omega) (by omega))), t.I (o := 142) (j := 0) (disj_ok hd (inL_in (o := 142) (lo := 0) (hi := 1) (by decide) (by omega) (by omega)))]
  exact LawR.cg (fun j hj => t.I (disj_ok hd (inL_in (o := 14) (lo := 0) (hi := 3) (by decide) (by omega) hj))) (fun j hj => t.I (disj_ok hd (inL_in (o := 15) (lo := 0) (hi := 64) (by decide) (by omega) hj))) (fun j hj => t.I (disj_ok hd (inL_in (o := 16) (lo := 0) (hi := 400) (by decide) (by omega) hj))) (fun j hj => t.I (disj_ok hd (inL_in (o := 143) (lo := 0) (hi := 16) (by decide) (by omega) hj))) (fun j hj => t.I (disj_ok hd (inL_in (o := 144) (lo := 0) (hi := 16) (by decide) (by omega) hj))) (fun j hj => t.I (disj_ok hd (inL_in (o := 145) (lo := 0) (hi := 16) (by decide) (by omega) hj))) (fun j hj => t.I (disj_ok hd (inL_in (o := 146) (lo := 0) (hi := 16) (by decide) (by omega) hj))) (fun j hj => t.I (disj_ok hd (inL_in (o := 147) (lo := 0) (hi := 400) (by decide) (by omega) hj))) (fun j hj => t.I (disj_ok hd (inL_in (o := 148) (lo := 0) (hi := 400) (by decide) (by omega) hj))) c
def U_kin : SL := [(131, 6, 8), (19, 0, 3), (20, 0, 64), (131, 36, 37), (150, 0, 12)]
def C_kin (h : PH) (b : Nat) : Prop := KinR (ntOf h b) (gI h (b + 19)) (gI h (b + 20)) (gI h (b + 131) 36) (gI h (b + 150))
theorem C_kin.cg {L : SL} {b : Nat} {h h2 : PH} (t : Sn L b h h2) (hd : disj L U_kin = true) (c : C_kin h b) : C_kin h2 b := by
  have e6 := t.I (o := 131) (j := 6) (disj_ok hd (inL_in (o := 131) (lo := 6) (hi := 8) (by decide) (by omega) (by omega)))
  unfold C_kin ntOf at *
  rw [e6, t.I (o := 131) (j := 36) (disj_ok hd (inL_in (o := 131) (lo := 36) (hi := 37) (by decide) (by omega) (by omega)))]
  exact KinR.cg (fun j hj => t.I (disj_ok hd (inL_in (o := 19) (lo := 0) (hi := 3) (by decide) (by omega) hj))) (fun j hj => t.I (disj_ok hd (inL_in (o := 20) (lo := 0) (hi := 64) (by decide) (by omega) hj))) (fun j hj => t.I (disj_ok hd (inL_in (o := 150) (lo := 0) (hi := 12) (by decide) (by omega) hj))) c
def U_shi : SL := [(131, 6, 8), (21, 0, 3), (22, 0, 64), (131, 38, 39), (151, 0, 64)]
def C_shi (h : PH) (b : Nat) : Prop := ShiR (ntOf h b) (noOf h b) (gI h (b + 21)) (gI h (b + 22)) (gI h (b + 131) 38) (gI h (b + 151))
theorem C_shi.cg {L : SL} {b : Nat} {h h2 : PH} (t : Sn L b h h2) (hd : disj L U_shi = true) (c : C_shi h b) : C_shi h2 b := by
  have e6 := t.I (o := 131) (j := 6) (disj_ok hd (inL_in (o := 131) (lo := 6) (hi := 8) (by decide) (by omega) (by omega)))
  have e7 := t.I (o := 131) (j := 7) (disj_ok hd (inL_in (o := 131) (lo := 6) (hi := 8) (by decide) (by omega) (by omega)))
  unfold C_shi ntOf noOf at *
  rw [e6, e7, t.I (o := 131) (j := 38) (disj_ok hd (inL_in (o := 131) (lo := 38) (hi := 39) (by decide) (by omega) (by omega)))]
  exact ShiR.cg (fun j hj => t.I (disj_ok hd (inL_in (o := 21) (lo := 0) (hi := 3) (by decide) (by omega) hj))) (fun j hj => t.I (disj_ok hd (inL_in (o := 22) (lo := 0) (hi := 64) (by decide) (by omega) hj))) (fun j hj => t.I (disj_ok hd (inL_in (o := 151) (lo := 0) (hi := 64) (by decide) (by omega) hj))) c
def U_roa : SL := [(23, 0, 3), (24, 0, 64), (131, 40, 41), (152, 0, 64)]
def C_roa (h : PH) (b : Nat) : Prop := RoaR (gI h (b + 23)) (gI h (b + 24)) (gI h (b + 131) 40) (gI h (b + 152))
theorem C_roa.cg {L : SL} {b : Nat} {h h2 : PH} (t : Sn L b h h2) (hd : disj L U_roa = true) (c : C_roa h b) : C_roa h2 b := by
  unfold C_roa at *
  rw [t.I (o := 131) (j := 40) (disj_ok hd (inL_in (o := 131) (lo := 40) (hi := 41) (by decide) (by omega) (by omega)))]
  exact RoaR.cg (fun j hj => t.I (disj_ok hd (inL_in (o := 23) (lo := 0) (hi := 3) (by decide) (by omega) hj))) (fun j hj => t.I (disj_ok hd (inL_in (o := 24) (lo := 0) (hi := 64) (by decide) (by omega) hj))) (fun j hj => t.I (disj_ok hd (inL_in (o := 152) (lo := 0) (hi := 64) (by decide) (by omega) hj))) c
def U_ord : SL := [(26, 0, 3), (27, 0, 24), (131, 44, 45), (155, 0, 8), (156, 0, 8), (157, 0, 8)]
def C_ord (h : PH) (b : Nat) : Prop := OrdR (gI h (b + 26)) (gI h (b + 27)) (gI h (b + 131) 44) (gI h (b + 155)) (gI h (b + 156)) (gI h (b + 157))
theorem C_ord.cg {L : SL} {b : Nat} {h h2 : PH} (t : Sn L b h h2) (hd : disj L U_ord = true) (c : C_ord h b) : C_ord h2 b := by
  unfold C_ord at *
  rw [t.I (o := 131) (j := 44) (disj_ok hd (inL_in (o := 131) (lo := 44) (hi := 45) (by decide) (by omega) (by omega)))]
  exact OrdR.cg (fun j hj => t.I (disj_ok hd (inL_in (o := 26) (lo := 0) (hi := 3) (by decide) (by omega) hj))) (fun j hj => t.I (disj_ok hd (inL_in (o := 27) (lo := 0) (hi := 24) (by decide) (by omega) hj))) (fun j hj => t.I (disj_ok hd (inL_in (o := 155) (lo := 0) (hi := 8) (by decide) (by omega) hj))) (fun j hj => t.I (disj_ok hd (inL_in (o := 156) (lo := 0) (hi := 8) (by decide) (by omega) hj))) (fun j hj => t.I (disj_ok hd (inL_in (o := 157) (lo := 0) (hi := 8) (by decide) (by omega) hj))) c
def U_han : SL := [(28, 0, 3), (29, 0, 32), (131, 48, 49), (158, 0, 6)]
def C_han (h : PH) (b : Nat) : Prop := HanR (gI h (b + 28)) (gI h (b + 29)) (gI h (b + 131) 48) (gI h (b + 158))
theorem C_han.cg {L : SL} {b : Nat} {h h2 : PH} (t : Sn L b h h2) (hd : disj L U_han = true) (c : C_han h b) : C_han h2 b := by
  unfold C_han at *
  rw [t.I (o := 131) (j := 48) (disj_ok hd (inL_in (o := 131) (lo := 48) (hi := 49) (by decide) (by omega) (by omega)))]
  exact HanR.cg (fun j hj => t.I (disj_ok hd (inL_in (o := 28) (lo := 0) (hi := 3) (by decide) (by omega) hj))) (fun j hj => t.I (disj_ok hd (inL_in (o := 29) (lo := 0) (hi := 32) (by decide) (by omega) hj))) (fun j hj => t.I (disj_ok hd (inL_in (o := 158) (lo := 0) (hi := 6) (by decide) (by omega) hj))) c
def U_wei : SL := [(30, 0, 3), (31, 0, 8), (131, 52, 53), (161, 0, 8)]
def C_wei (h : PH) (b : Nat) : Prop := LisR 8 1 40 (gI h (b + 30)) (gI h (b + 31)) (gI h (b + 131) 52) (gI h (b + 161))
theorem C_wei.cg {L : SL} {b : Nat} {h h2 : PH} (t : Sn L b h h2) (hd : disj L U_wei = true) (c : C_wei h b) : C_wei h2 b := by
  unfold C_wei at *
  rw [t.I (o := 131) (j := 52) (disj_ok hd (inL_in (o := 131) (lo := 52) (hi := 53) (by decide) (by omega) (by omega)))]
  exact LisR.cg (fun j hj => t.I (disj_ok hd (inL_in (o := 30) (lo := 0) (hi := 3) (by decide) (by omega) hj))) (fun j hj => t.I (disj_ok hd (inL_in (o := 31) (lo := 0) (hi := 8) (by decide) (by omega) hj))) (fun j hj => t.I (disj_ok hd (inL_in (o := 161) (lo := 0) (hi := 8) (by decide) (by omega) hj))) c
def U_bag : SL := [(32, 0, 3), (33, 0, 10), (131, 55, 57), (163, 0, 10), (34, 0, 3), (35, 0, 12), (164, 0, 6), (165, 0, 6)]
def C_bag (h : PH) (b : Nat) : Prop := LisR 10 1 99 (gI h (b + 32)) (gI h (b + 33)) (gI h (b + 131) 55) (gI h (b + 163)) ∧ WgdR (gI h (b + 131) 55).toNatClampNeg (gI h (b + 34)) (gI h (b + 35)) (gI h (b + 131) 56) (gI h (b + 164)) (gI h (b + 165))
theorem C_bag.cg {L : SL} {b : Nat} {h h2 : PH} (t : Sn L b h h2) (hd : disj L U_bag = true) (c : C_bag h b) : C_bag h2 b := by
  unfold C_bag at *
  rw [t.I (o := 131) (j := 55) (disj_ok hd (inL_in (o := 131) (lo := 55) (hi := 57) (by decide) (by omega) (by omega))), t.I (o := 131) (j := 56) (disj_ok hd (inL_in (o := 131) (lo := 55) (hi := 57) (by decide) (by omega) (by omega)))]
  exact ⟨LisR.cg (fun j hj => t.I (disj_ok hd (inL_in (o := 32) (lo := 0) (hi := 3) (by decide) (by omega) hj))) (fun j hj => t.I (disj_ok hd (inL_in (o := 33) (lo := 0) (hi := 10) (by decide) (by omega) hj))) (fun j hj => t.I (disj_ok hd (inL_in (o := 163) (lo := 0) (hi := 10) (by decide) (by omega) hj))) c.1, WgdR.cg (fun j hj => t.I (disj_ok hd (inL_in (o := 34) (lo := 0) (hi := 3) (by decide) (by omega) hj))) (fun j hj => t.I (disj_ok hd (inL_in (o := 35) (lo := 0) (hi := 12) (by decide) (by omega) hj))) (fun j hj => t.I (disj_ok hd (inL_in (o := 164) (lo := 0) (hi := 6) (by decide) (by omega) hj))) (fun j hj => t.I (disj_ok hd (inL_in (o := 165) (lo := 0) (hi := 6) (by decide) (by omega) hj))) c.2⟩
def U_pri : SL := [(36, 0, 3), (37, 0, 12), (131, 63, 64), (169, 0, 12)]
def C_pri (h : PH) (b : Nat) : Prop := LisR 12 0 99 (gI h (b + 36)) (gI h (b + 37)) (gI h (b + 131) 63) (gI h (b + 169))
theorem C_pri.cg {L : SL} {b : Nat} {h h2 : PH} (t : Sn L b h h2) (hd : disj L U_pri = true) (c : C_pri h b) : C_pri h2 b := by
  unfold C_pri at *
  rw [t.I (o := 131) (j := 63) (disj_ok hd (inL_in (o := 131) (lo := 63) (hi := 64) (by decide) (by omega) (by omega)))]
  exact LisR.cg (fun j hj => t.I (disj_ok hd (inL_in (o := 36) (lo := 0) (hi := 3) (by decide) (by omega) hj))) (fun j hj => t.I (disj_ok hd (inL_in (o := 37) (lo := 0) (hi := 12) (by decide) (by omega) hj))) (fun j hj => t.I (disj_ok hd (inL_in (o := 169) (lo := 0) (hi := 12) (by decide) (by omega) hj))) c
def U_cnt : SL := [(38, 0, 24), (168, 0, 24)]
def C_cnt (h : PH) (b : Nat) : Prop := FigR 24 24 999 999 (gI h (b + 38)) (gI h (b + 168))
theorem C_cnt.cg {L : SL} {b : Nat} {h h2 : PH} (t : Sn L b h h2) (hd : disj L U_cnt = true) (c : C_cnt h b) : C_cnt h2 b := by
  exact FigR.cg (fun j hj => t.I (disj_ok hd (inL_in (o := 38) (lo := 0) (hi := 24) (by decide) (by omega) hj))) (fun j hj => t.I (disj_ok hd (inL_in (o := 168) (lo := 0) (hi := 24) (by decide) (by omega) hj))) c
def U_led : SL := [(39, 0, 24), (172, 0, 24)]
def C_led (h : PH) (b : Nat) : Prop := FigR 24 16 99 999 (gI h (b + 39)) (gI h (b + 172))
theorem C_led.cg {L : SL} {b : Nat} {h h2 : PH} (t : Sn L b h h2) (hd : disj L U_led = true) (c : C_led h b) : C_led h2 b := by
  exact FigR.cg (fun j hj => t.I (disj_ok hd (inL_in (o := 39) (lo := 0) (hi := 24) (by decide) (by omega) hj))) (fun j hj => t.I (disj_ok hd (inL_in (o := 172) (lo := 0) (hi := 24) (by decide) (by omega) hj))) c
def U_yea : SL := [(25, 8, 10), (131, 68, 70)]
def C_yea (h : PH) (b : Nat) : Prop := YeaR (gI h (b + 25) 8) (gI h (b + 25) 9) (gI h (b + 131) 68) (gI h (b + 131) 69)
theorem C_yea.cg {L : SL} {b : Nat} {h h2 : PH} (t : Sn L b h h2) (hd : disj L U_yea = true) (c : C_yea h b) : C_yea h2 b := by
  unfold C_yea at *
  rw [t.I (o := 25) (j := 8) (disj_ok hd (inL_in (o := 25) (lo := 8) (hi := 10) (by decide) (by omega) (by omega))), t.I (o := 25) (j := 9) (disj_ok hd (inL_in (o := 25) (lo := 8) (hi := 10) (by decide) (by omega) (by omega))), t.I (o := 131) (j := 68) (disj_ok hd (inL_in (o := 131) (lo := 68) (hi := 70) (by decide) (by omega) (by omega))), t.I (o := 131) (j := 69) (disj_ok hd (inL_in (o := 131) (lo := 68) (hi := 70) (by decide) (by omega) (by omega)))]
  exact c
/-- the i-th latest realm that is kept: its place in the class, its row in the reference -/
def logAt (nx i : Nat) : Nat := 42 + 10 * ((nx + 5 - i) % 6)
def rowAt (h : PH) (b n i : Nat) : Nat → Int32 := fun j => gI h (b + 133) (79 * (n - 1 - i) + j)
def U_log : SL := [(131, 6, 8), (135, 0, 12), (136, 0, 12), (137, 0, 6), (138, 0, 6), (40, 1, 3), (42, 0, 20), (43, 0, 12), (44, 0, 12), (45, 0, 12), (46, 0, 12), (47, 0, 12), (48, 0, 6), (49, 0, 6), (50, 0, 6), (51, 0, 6), (52, 0, 20), (53, 0, 12), (54, 0, 12), (55, 0, 12), (56, 0, 12), (57, 0, 12), (58, 0, 6), (59, 0, 6), (60, 0, 6), (61, 0, 6), (62, 0, 20), (63, 0, 12), (64, 0, 12), (65, 0, 12), (66, 0, 12), (67, 0, 12), (68, 0, 6), (69, 0, 6), (70, 0, 6), (71, 0, 6), (72, 0, 20), (73, 0, 12), (74, 0, 12), (75, 0, 12), (76, 0, 12), (77, 0, 12), (78, 0, 6), (79, 0, 6), (80, 0, 6), (81, 0, 6), (82, 0, 20), (83, 0, 12), (84, 0, 12), (85, 0, 12), (86, 0, 12), (87, 0, 12), (88, 0, 6), (89, 0, 6), (90, 0, 6), (91, 0, 6), (92, 0, 20), (93, 0, 12), (94, 0, 12), (95, 0, 12), (96, 0, 12), (97, 0, 12), (98, 0, 6), (99, 0, 6), (100, 0, 6), (101, 0, 6), (131, 3, 4), (133, 0, 474)]
def C_log (h : PH) (b : Nat) : Prop := (ntOf h b ≤ 12 ∧ noOf h b ≤ 6) ∧ ∃ n nx, n ≤ 6 ∧ nx < 6 ∧ gI h (b + 40) 2 = nI n ∧ gI h (b + 131) 3 = nI n ∧ gI h (b + 40) 1 = nI nx ∧ ∀ i, i < n → RowOK (ntOf h b) (noOf h b) (rowAt h b n i) ∧ RealmAt h b (logAt nx i) (ntOf h b) (noOf h b) (gI h (b + 135)) (gI h (b + 136)) (gI h (b + 137)) (gI h (b + 138)) (rowAt h b n i)
theorem C_log.cg {L : SL} {b : Nat} {h h2 : PH} (t : Sn L b h h2) (hd : disj L U_log = true) (c : C_log h b) : C_log h2 b := by
  have e6 := t.I (o := 131) (j := 6) (disj_ok hd (inL_in (o := 131) (lo := 6) (hi := 8) (by decide) (by omega) (by omega)))
  have e7 := t.I (o := 131) (j := 7) (disj_ok hd (inL_in (o := 131) (lo := 6) (hi := 8) (by decide) (by omega) (by omega)))
  unfold C_log ntOf noOf at *
  rw [e6, e7]
  obtain ⟨hb, n, nx, w1, w2, w3, w4, w5, w6⟩ := c
  have er : ∀ i, i < n → ∀ j, j < 79 → rowAt h2 b n i j = rowAt h b n i j := fun i hi j hj => t.I (disj_ok hd (inL_in (o := 133) (lo := 0) (hi := 474) (by decide) (by omega) (by omega)))
  refine ⟨hb, n, nx, w1, w2, (t.I (o := 40) (j := 2) (disj_ok hd (inL_in (o := 40) (lo := 1) (hi := 3) (by decide) (by omega) (by omega)))).trans w3, (t.I (o := 131) (j := 3) (disj_ok hd (inL_in (o := 131) (lo := 3) (hi := 4) (by decide) (by omega) (by omega)))).trans w4, (t.I (o := 40) (j := 1) (disj_ok hd (inL_in (o := 40) (lo := 1) (hi := 3) (by decide) (by omega) (by omega)))).trans w5, fun i hi => ?_⟩
  obtain ⟨g1, g2⟩ := w6 i hi
  refine ⟨g1.cg hb.1 hb.2 (er i hi), ?_⟩
  have hm : (nx + 5 - i) % 6 < 6 := Nat.mod_lt _ (by omega)
  generalize hq : (nx + 5 - i) % 6 = q at hm
  unfold logAt at g2 ⊢
  rw [hq] at g2 ⊢
  rcases Nat.lt_or_ge q 1 with hq0 | hq0
  · obtain rfl : q = 0 := by omega
    exact RlR.cg hb.1 hb.2 (fun j hj => t.I (disj_ok hd (inL_in (o := 42) (lo := 0) (hi := 20) (by decide) (by omega) hj))) (fun j hj => t.I (disj_ok hd (inL_in (o := 43) (lo := 0) (hi := 12) (by decide) (by omega) hj))) (fun j hj => t.I (disj_ok hd (inL_in (o := 44) (lo := 0) (hi := 12) (by decide) (by omega) hj))) (fun j hj => t.I (disj_ok hd (inL_in (o := 45) (lo := 0) (hi := 12) (by decide) (by omega) hj))) (fun j hj => t.I (disj_ok hd (inL_in (o := 46) (lo := 0) (hi := 12) (by decide) (by omega) hj))) (fun j hj => t.I (disj_ok hd (inL_in (o := 47) (lo := 0) (hi := 12) (by decide) (by omega) hj))) (fun j hj => t.I (disj_ok hd (inL_in (o := 48) (lo := 0) (hi := 6) (by decide) (by omega) hj))) (fun j hj => t.I (disj_ok hd (inL_in (o := 49) (lo := 0) (hi := 6) (by decide) (by omega) hj))) (fun j hj => t.I (disj_ok hd (inL_in (o := 50) (lo := 0) (hi := 6) (by decide) (by omega) hj))) (fun j hj => t.I (disj_ok hd (inL_in (o := 51) (lo := 0) (hi := 6) (by decide) (by omega) hj))) (fun j hj => t.I (disj_ok hd (inL_in (o := 135) (lo := 0) (hi := 12) (by decide) (by omega) hj))) (fun j hj => t.I (disj_ok hd (inL_in (o := 136) (lo := 0) (hi := 12) (by decide) (by omega) hj))) (fun j hj => t.I (disj_ok hd (inL_in (o := 137) (lo := 0) (hi := 6) (by decide) (by omega) hj))) (fun j hj => t.I (disj_ok hd (inL_in (o := 138) (lo := 0) (hi := 6) (by decide) (by omega) hj))) (er i hi) g2
  rcases Nat.lt_or_ge q 2 with hq1 | hq1
  · obtain rfl : q = 1 := by omega
    exact RlR.cg hb.1 hb.2 (fun j hj => t.I (disj_ok hd (inL_in (o := 52) (lo := 0) (hi := 20) (by decide) (by omega) hj))) (fun j hj => t.I (disj_ok hd (inL_in (o := 53) (lo := 0) (hi := 12) (by decide) (by omega) hj))) (fun j hj => t.I (disj_ok hd (inL_in (o := 54) (lo := 0) (hi := 12) (by decide) (by omega) hj))) (fun j hj => t.I (disj_ok hd (inL_in (o := 55) (lo := 0) (hi := 12) (by decide) (by omega) hj))) (fun j hj => t.I (disj_ok hd (inL_in (o := 56) (lo := 0) (hi := 12) (by decide) (by omega) hj))) (fun j hj => t.I (disj_ok hd (inL_in (o := 57) (lo := 0) (hi := 12) (by decide) (by omega) hj))) (fun j hj => t.I (disj_ok hd (inL_in (o := 58) (lo := 0) (hi := 6) (by decide) (by omega) hj))) (fun j hj => t.I (disj_ok hd (inL_in (o := 59) (lo := 0) (hi := 6) (by decide) (by omega) hj))) (fun j hj => t.I (disj_ok hd (inL_in (o := 60) (lo := 0) (hi := 6) (by decide) (by omega) hj))) (fun j hj => t.I (disj_ok hd (inL_in (o := 61) (lo := 0) (hi := 6) (by decide) (by omega) hj))) (fun j hj => t.I (disj_ok hd (inL_in (o := 135) (lo := 0) (hi := 12) (by decide) (by omega) hj))) (fun j hj => t.I (disj_ok hd (inL_in (o := 136) (lo := 0) (hi := 12) (by decide) (by omega) hj))) (fun j hj => t.I (disj_ok hd (inL_in (o := 137) (lo := 0) (hi := 6) (by decide) (by omega) hj))) (fun j hj => t.I (disj_ok hd (inL_in (o := 138) (lo := 0) (hi := 6) (by decide) (by omega) hj))) (er i hi) g2
  rcases Nat.lt_or_ge q 3 with hq2 | hq2
  · obtain rfl : q = 2 := by omega
    exact RlR.cg hb.1 hb.2 (fun j hj => t.I (disj_ok hd (inL_in (o := 62) (lo := 0) (hi := 20) (by decide) (by omega) hj))) (fun j hj => t.I (disj_ok hd (inL_in (o := 63) (lo := 0) (hi := 12) (by decide) (by omega) hj))) (fun j hj => t.I (disj_ok hd (inL_in (o := 64) (lo := 0) (hi := 12) (by decide) (by omega) hj))) (fun j hj => t.I (disj_ok hd (inL_in (o := 65) (lo := 0) (hi := 12) (by decide) (by omega) hj))) (fun j hj => t.I (disj_ok hd (inL_in (o := 66) (lo := 0) (hi := 12) (by decide) (by omega) hj))) (fun j hj => t.I (disj_ok hd (inL_in (o := 67) (lo := 0) (hi := 12) (by decide) (by omega) hj))) (fun j hj => t.I (disj_ok hd (inL_in (o := 68) (lo := 0) (hi := 6) (by decide) (by omega) hj))) (fun j hj => t.I (disj_ok hd (inL_in (o := 69) (lo := 0) (hi := 6) (by decide) (by omega) hj))) (fun j hj => t.I (disj_ok hd (inL_in (o := 70) (lo := 0) (hi := 6) (by decide) (by omega) hj))) (fun j hj => t.I (disj_ok hd (inL_in (o := 71) (lo := 0) (hi := 6) (by decide) (by omega) hj))) (fun j hj => t.I (disj_ok hd (inL_in (o := 135) (lo := 0) (hi := 12) (by decide) (by omega) hj))) (fun j hj => t.I (disj_ok hd (inL_in (o := 136) (lo := 0) (hi := 12) (by decide) (by omega) hj))) (fun j hj => t.I (disj_ok hd (inL_in (o := 137) (lo := 0) (hi := 6) (by decide) (by omega) hj))) (fun j hj => t.I (disj_ok hd (inL_in (o := 138) (lo := 0) (hi := 6) (by decide) (by omega) hj))) (er i hi) g2
  rcases Nat.lt_or_ge q 4 with hq3 | hq3
  · obtain rfl : q = 3 := by omega
    exact RlR.cg hb.1 hb.2 (fun j hj => t.I (disj_ok hd (inL_in (o := 72) (lo := 0) (hi := 20) (by decide) (by omega) hj))) (fun j hj => t.I (disj_ok hd (inL_in (o := 73) (lo := 0) (hi := 12) (by decide) (by omega) hj))) (fun j hj => t.I (disj_ok hd (inL_in (o := 74) (lo := 0) (hi := 12) (by decide) (by omega) hj))) (fun j hj => t.I (disj_ok hd (inL_in (o := 75) (lo := 0) (hi := 12) (by decide) (by omega) hj))) (fun j hj => t.I (disj_ok hd (inL_in (o := 76) (lo := 0) (hi := 12) (by decide) (by omega) hj))) (fun j hj => t.I (disj_ok hd (inL_in (o := 77) (lo := 0) (hi := 12) (by decide) (by omega) hj))) (fun j hj => t.I (disj_ok hd (inL_in (o := 78) (lo := 0) (hi := 6) (by decide) (by omega) hj))) (fun j hj => t.I (disj_ok hd (inL_in (o := 79) (lo := 0) (hi := 6) (by decide) (by omega) hj))) (fun j hj => t.I (disj_ok hd (inL_in (o := 80) (lo := 0) (hi := 6) (by decide) (by omega) hj))) (fun j hj => t.I (disj_ok hd (inL_in (o := 81) (lo := 0) (hi := 6) (by decide) (by omega) hj))) (fun j hj => t.I (disj_ok hd (inL_in (o := 135) (lo := 0) (hi := 12) (by decide) (by omega) hj))) (fun j hj => t.I (disj_ok hd (inL_in (o := 136) (lo := 0) (hi := 12) (by decide) (by omega) hj))) (fun j hj => t.I (disj_ok hd (inL_in (o := 137) (lo := 0) (hi := 6) (by decide) (by omega) hj))) (fun j hj => t.I (disj_ok hd (inL_in (o := 138) (lo := 0) (hi := 6) (by decide) (by omega) hj))) (er i hi) g2
  rcases Nat.lt_or_ge q 5 with hq4 | hq4
  · obtain rfl : q = 4 := by omega
    exact RlR.cg hb.1 hb.2 (fun j hj => t.I (disj_ok hd (inL_in (o := 82) (lo := 0) (hi := 20) (by decide) (by omega) hj))) (fun j hj => t.I (disj_ok hd (inL_in (o := 83) (lo := 0) (hi := 12) (by decide) (by omega) hj))) (fun j hj => t.I (disj_ok hd (inL_in (o := 84) (lo := 0) (hi := 12) (by decide) (by omega) hj))) (fun j hj => t.I (disj_ok hd (inL_in (o := 85) (lo := 0) (hi := 12) (by decide) (by omega) hj))) (fun j hj => t.I (disj_ok hd (inL_in (o := 86) (lo := 0) (hi := 12) (by decide) (by omega) hj))) (fun j hj => t.I (disj_ok hd (inL_in (o := 87) (lo := 0) (hi := 12) (by decide) (by omega) hj))) (fun j hj => t.I (disj_ok hd (inL_in (o := 88) (lo := 0) (hi := 6) (by decide) (by omega) hj))) (fun j hj => t.I (disj_ok hd (inL_in (o := 89) (lo := 0) (hi := 6) (by decide) (by omega) hj))) (fun j hj => t.I (disj_ok hd (inL_in (o := 90) (lo := 0) (hi := 6) (by decide) (by omega) hj))) (fun j hj => t.I (disj_ok hd (inL_in (o := 91) (lo := 0) (hi := 6) (by decide) (by omega) hj))) (fun j hj => t.I (disj_ok hd (inL_in (o := 135) (lo := 0) (hi := 12) (by decide) (by omega) hj))) (fun j hj => t.I (disj_ok hd (inL_in (o := 136) (lo := 0) (hi := 12) (by decide) (by omega) hj))) (fun j hj => t.I (disj_ok hd (inL_in (o := 137) (lo := 0) (hi := 6) (by decide) (by omega) hj))) (fun j hj => t.I (disj_ok hd (inL_in (o := 138) (lo := 0) (hi := 6) (by decide) (by omega) hj))) (er i hi) g2
  have hq5 : q < 6 := hm
  obtain rfl : q = 5 := by omega
  exact RlR.cg hb.1 hb.2 (fun j hj => t.I (disj_ok hd (inL_in (o := 92) (lo := 0) (hi := 20) (by decide) (by omega) hj))) (fun j hj => t.I (disj_ok hd (inL_in (o := 93) (lo := 0) (hi := 12) (by decide) (by omega) hj))) (fun j hj => t.I (disj_ok hd (inL_in (o := 94) (lo := 0) (hi := 12) (by decide) (by omega) hj))) (fun j hj => t.I (disj_ok hd (inL_in (o := 95) (lo := 0) (hi := 12) (by decide) (by omega) hj))) (fun j hj => t.I (disj_ok hd (inL_in (o := 96) (lo := 0) (hi := 12) (by decide) (by omega) hj))) (fun j hj => t.I (disj_ok hd (inL_in (o := 97) (lo := 0) (hi := 12) (by decide) (by omega) hj))) (fun j hj => t.I (disj_ok hd (inL_in (o := 98) (lo := 0) (hi := 6) (by decide) (by omega) hj))) (fun j hj => t.I (disj_ok hd (inL_in (o := 99) (lo := 0) (hi := 6) (by decide) (by omega) hj))) (fun j hj => t.I (disj_ok hd (inL_in (o := 100) (lo := 0) (hi := 6) (by decide) (by omega) hj))) (fun j hj => t.I (disj_ok hd (inL_in (o := 101) (lo := 0) (hi := 6) (by decide) (by omega) hj))) (fun j hj => t.I (disj_ok hd (inL_in (o := 135) (lo := 0) (hi := 12) (by decide) (by omega) hj))) (fun j hj => t.I (disj_ok hd (inL_in (o := 136) (lo := 0) (hi := 12) (by decide) (by omega) hj))) (fun j hj => t.I (disj_ok hd (inL_in (o := 137) (lo := 0) (hi := 6) (by decide) (by omega) hj))) (fun j hj => t.I (disj_ok hd (inL_in (o := 138) (lo := 0) (hi := 6) (by decide) (by omega) hj))) (er i hi) g2
def U_rdr : SL := [(102, 1, 4), (103, 0, 400), (131, 14, 15), (131, 34, 36), (140, 0, 400)]
def C_rdr (h : PH) (b : Nat) : Prop := (∃ n, n ≤ 400 ∧ gI h (b + 102) 1 = nI n ∧ gI h (b + 131) 14 = nI n) ∧ gI h (b + 102) 2 = gI h (b + 131) 34 ∧ gI h (b + 102) 3 = gI h (b + 131) 35 ∧ FigR 400 400 255 255 (gI h (b + 103)) (gI h (b + 140))
theorem C_rdr.cg {L : SL} {b : Nat} {h h2 : PH} (t : Sn L b h h2) (hd : disj L U_rdr = true) (c : C_rdr h b) : C_rdr h2 b := by
  unfold C_rdr at *
  rw [t.I (o := 102) (j := 1) (disj_ok hd (inL_in (o := 102) (lo := 1) (hi := 4) (by decide) (by omega) (by omega))), t.I (o := 131) (j := 14) (disj_ok hd (inL_in (o := 131) (lo := 14) (hi := 15) (by decide) (by omega) (by omega))), t.I (o := 102) (j := 2) (disj_ok hd (inL_in (o := 102) (lo := 1) (hi := 4) (by decide) (by omega) (by omega))), t.I (o := 131) (j := 34) (disj_ok hd (inL_in (o := 131) (lo := 34) (hi := 36) (by decide) (by omega) (by omega))), t.I (o := 102) (j := 3) (disj_ok hd (inL_in (o := 102) (lo := 1) (hi := 4) (by decide) (by omega) (by omega))), t.I (o := 131) (j := 35) (disj_ok hd (inL_in (o := 131) (lo := 34) (hi := 36) (by decide) (by omega) (by omega)))]
  exact ⟨c.1, c.2.1, c.2.2.1, FigR.cg (fun j hj => t.I (disj_ok hd (inL_in (o := 103) (lo := 0) (hi := 400) (by decide) (by omega) hj))) (fun j hj => t.I (disj_ok hd (inL_in (o := 140) (lo := 0) (hi := 400) (by decide) (by omega) hj))) c.2.2.2⟩
/-- the reference's words -/
def mwords : List Int32 := [32, 119, 101, 101, 112, 32, 114, 97, 116, 101, 32, 102, 105, 110, 100, 32, 119, 104, 101, 110, 32, 111, 114, 32, 97, 110, 100, 32, 110, 111, 116, 32, 99, 97, 117, 115, 101, 32, 103, 114, 105, 112, 32, 119, 101, 116, 32, 99, 111, 105, 110, 32, 104, 111, 117, 114, 32, 103, 97, 116, 101, 32, 110, 111, 115, 101, 32, 115, 111, 102, 116, 32, 116, 105, 114, 101, 100, 32, 107, 105, 110, 32, 116, 114, 97, 118, 101, 108, 108, 101, 114, 32, 119, 105, 116, 104, 32, 97, 116, 32, 115, 101, 110, 100, 32, 116, 111, 32, 111, 112, 101, 110, 32, 99, 108, 111, 115, 101, 32, 109, 111, 118, 101, 32, 106, 111, 107, 101, 32, 111, 110, 105, 111, 110, 32, 114, 111, 97, 100, 32, 100, 114, 121, 32]
def U_msc : SL := [(131, 5, 6), (141, 0, 144), (105, 0, 1), (110, 0, 1)]
def C_msc (h : PH) (b : Nat) : Prop := gI h (b + 131) 5 = 0 ∧ (gI h (b + 105) 0 = nI 4 ∧ gI h (b + 110) 0 = nI 4) ∧ ∀ j, j < 144 → gI h (b + 141) j = mwords.getD j 0
theorem C_msc.cg {L : SL} {b : Nat} {h h2 : PH} (t : Sn L b h h2) (hd : disj L U_msc = true) (c : C_msc h b) : C_msc h2 b := by
  unfold C_msc at *
  rw [t.I (o := 131) (j := 5) (disj_ok hd (inL_in (o := 131) (lo := 5) (hi := 6) (by decide) (by omega) (by omega))), t.I (o := 105) (j := 0) (disj_ok hd (inL_in (o := 105) (lo := 0) (hi := 1) (by decide) (by omega) (by omega))), t.I (o := 110) (j := 0) (disj_ok hd (inL_in (o := 110) (lo := 0) (hi := 1) (by decide) (by omega) (by omega)))]
  exact ⟨c.1, c.2.1, fun j hj => by rw [t.I (disj_ok hd (inL_in (o := 141) (lo := 0) (hi := 144) (by decide) (by omega) hj))]; exact c.2.2 j hj⟩
/-- the two rows that the class swaps -/
def C_desk (h : PH) (b : Nat) : Prop := (gR h (b + 124) 4 = some (b + 129) ∧ gR h (b + 124) 5 = some (b + 130)) ∨ (gR h (b + 124) 4 = some (b + 130) ∧ gR h (b + 124) 5 = some (b + 129))
theorem C_desk.cg {L : SL} {b : Nat} {h h2 : PH} (t : Sn L b h h2) (c : C_desk h b) : C_desk h2 b := by
  unfold C_desk at *
  rw [t.2.1]
  exact c
