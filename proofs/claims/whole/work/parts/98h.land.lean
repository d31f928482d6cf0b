/-! ===== only the cells below 174 matter ===== -/
def SnQ (L : SL) (b : Nat) (h h2 : PH) : Prop := ∀ o j, o < 174 → inL L o j = false → gI h2 (b + o) j = gI h (b + o) j
theorem SnQ.I {L : SL} {b : Nat} {h h2 : PH} (t : SnQ L b h h2) {o j : Nat} (ho : inL L o j = false) (hl : o < 174 := by decide) : gI h2 (b + o) j = gI h (b + o) j := t o j hl ho
theorem C_stat.cq {L : SL} {b : Nat} {h h2 : PH} (t : SnQ L b h h2) (hd : disj L U_stat = true) (c : C_stat h b) : C_stat h2 b := by
  have e6 := t.I (o := 131) (j := 6) (disj_ok hd (inL_in (o := 131) (lo := 6) (hi := 8) (by decide) (by omega) (by omega)))
  have e7 := t.I (o := 131) (j := 7) (disj_ok hd (inL_in (o := 131) (lo := 6) (hi := 8) (by decide) (by omega) (by omega)))
  unfold C_stat ntOf noOf at *
  rw [e6, e7]
  exact ⟨c.1, c.2.1, c.2.2.cg (fun j hj => t.I (disj_ok hd (inL_in (o := 135) (lo := 0) (hi := 12) (by decide) (by omega) hj))) (fun j hj => t.I (disj_ok hd (inL_in (o := 136) (lo := 0) (hi := 12) (by decide) (by omega) hj))) (fun j hj => t.I (disj_ok hd (inL_in (o := 137) (lo := 0) (hi := 6) (by decide) (by omega) hj))) (fun j hj => t.I (disj_ok hd (inL_in (o := 138) (lo := 0) (hi := 6) (by decide) (by omega) hj)))⟩
theorem C_realm.cq {L : SL} {b : Nat} {h h2 : PH} (t : SnQ L b h h2) (hd : disj L U_realm = true) (c : C_realm h b) : C_realm h2 b := by
  have e6 := t.I (o := 131) (j := 6) (disj_ok hd (inL_in (o := 131) (lo := 6) (hi := 8) (by decide) (by omega) (by omega)))
  have e7 := t.I (o := 131) (j := 7) (disj_ok hd (inL_in (o := 131) (lo := 6) (hi := 8) (by decide) (by omega) (by omega)))
  unfold C_realm ntOf noOf at *
  rw [e6, e7]
  refine ⟨c.1, c.2.1.cg c.1.1 c.1.2 (fun j hj => t.I (disj_ok hd (inL_in (o := 132) (lo := 0) (hi := 79) (by decide) (by omega) hj))), ?_⟩
  exact RlR.cg c.1.1 c.1.2 (fun j hj => t.I (disj_ok hd (inL_in (o := 2) (lo := 0) (hi := 20) (by decide) (by omega) hj))) (fun j hj => t.I (disj_ok hd (inL_in (o := 3) (lo := 0) (hi := 12) (by decide) (by omega) hj))) (fun j hj => t.I (disj_ok hd (inL_in (o := 4) (lo := 0) (hi := 12) (by decide) (by omega) hj))) (fun j hj => t.I (disj_ok hd (inL_in (o := 5) (lo := 0) (hi := 12) (by decide) (by omega) hj))) (fun j hj => t.I (disj_ok hd (inL_in (o := 6) (lo := 0) (hi := 12) (by decide) (by omega) hj))) (fun j hj => t.I (disj_ok hd (inL_in (o := 7) (lo := 0) (hi := 12) (by decide) (by omega) hj))) (fun j hj => t.I (disj_ok hd (inL_in (o := 8) (lo := 0) (hi := 6) (by decide) (by omega) hj))) (fun j hj => t.I (disj_ok hd (inL_in (o := 9) (lo := 0) (hi := 6) (by decide) (by omega) hj))) (fun j hj => t.I (disj_ok hd (inL_in (o := 10) (lo := 0) (hi := 6) (by decide) (by omega) hj))) (fun j hj => t.I (disj_ok hd (inL_in (o := 11) (lo := 0) (hi := 6) (by decide) (by omega) hj))) (fun j hj => t.I (disj_ok hd (inL_in (o := 135) (lo := 0) (hi := 12) (by decide) (by omega) hj))) (fun j hj => t.I (disj_ok hd (inL_in (o := 136) (lo := 0) (hi := 12) (by decide) (by omega) hj))) (fun j hj => t.I (disj_ok hd (inL_in (o := 137) (lo := 0) (hi := 6) (by decide) (by omega) hj))) (fun j hj => t.I (disj_ok hd (inL_in (o := 138) (lo := 0) (hi := 6) (by decide) (by omega) hj))) (fun j hj => t.I (disj_ok hd (inL_in (o := 132) (lo := 0) (hi := 79) (by decide) (by omega) hj))) c.2.2
theorem C_book.cq {L : SL} {b : Nat} {h h2 : PH} (t : SnQ L b h h2) (hd : disj L U_book = true) (c : C_book h b) : C_book h2 b := by
  exact BookR.cg (fun j hj => t.I (disj_ok hd (inL_in (o := 12) (lo := 0) (hi := 600) (by decide) (by omega) hj))) (fun j hj => t.I (disj_ok hd (inL_in (o := 139) (lo := 0) (hi := 600) (by decide) (by omega) hj))) c
theorem C_law.cq {L : SL} {b : Nat} {h h2 : PH} (t : SnQ L b h h2) (hd : disj L U_law = true) (c : C_law h b) : C_law h2 b := by
  unfold C_law at *
  rw [t.I (o := 13) (j := 2) (disj_ok hd (inL_in (o := 13) (lo := 2) (hi := 3) (by decide) (by omega) (by omega))), t.I (o := 142) (j := 0) (disj_ok hd (inL_in (o := 142) (lo := 0) (hi := 1) (by decide) (by omega) (by omega)))]
  exact LawR.cg (fun j hj => t.I (disj_ok hd (inL_in (o := 14) (lo := 0) (hi := 3) (by decide) (by omega) hj))) (fun j hj => t.I (disj_ok hd (inL_in (o := 15) (lo := 0) (hi := 64) (by decide) (by omega) hj))) (fun j hj => t.I (disj_ok hd (inL_in (o := 16) (lo := 0) (hi := 400) (by decide) (by omega) hj))) (fun j hj => t.I (disj_ok hd (inL_in (o := 143) (lo := 0) (hi := 16) (by decide) (by omega) hj))) (fun j hj => t.I (disj_ok hd (inL_in (o := 144) (lo := 0) (hi := 16) (by decide) (by omega) hj))) (fun j hj => t.I (disj_ok hd (inL_in (o := 145) (lo := 0) (hi := 16) (by decide) (by omega) hj))) (fun j hj => t.I (disj_ok hd (inL_in (o := 146) (lo := 0) (hi := 16) (by decide) (by omega) hj))) (fun j hj => t.I (disj_ok hd (inL_in (o := 147) (lo := 0) (hi := 400) (by decide) (by omega) hj))) (fun j hj => t.I (disj_ok hd (inL_in (o := 148) (lo := 0) (hi := 400) (by decide) (by omega) hj))) c
theorem C_kin.cq {L : SL} {b : Nat} {h h2 : PH} (t : SnQ L b h h2) (hd : disj L U_kin = true) (c : C_kin h b) : C_kin h2 b := by
  have e6 := t.I (o := 131) (j := 6) (disj_ok hd (inL_in (o := 131) (lo := 6) (hi := 8) (by decide) (by omega) (by omega)))
  unfold C_kin ntOf at *
  rw [e6, t.I (o := 131) (j := 36) (disj_ok hd (inL_in (o := 131) (lo := 36) (hi := 37) (by decide) (by omega) (by omega)))]
  exact KinR.cg (fun j hj => t.I (disj_ok hd (inL_in (o := 19) (lo := 0) (hi := 3) (by decide) (by omega) hj))) (fun j hj => t.I (disj_ok hd (inL_in (o := 20) (lo := 0) (hi := 64) (by decide) (by omega) hj))) (fun j hj => t.I (disj_ok hd (inL_in (o := 150) (lo := 0) (hi := 12) (by decide) (by omega) hj))) c
theorem C_shi.cq {L : SL} {b : Nat} {h h2 : PH} (t : SnQ L b h h2) (hd : disj L U_shi = true) (c : C_shi h b) : C_shi h2 b := by
  have e6 := t.I (o := 131) (j := 6) (disj_ok hd (inL_in (o := 131) (lo := 6) (hi := 8) (by decide) (by omega) (by omega)))
  have e7 := t.I (o := 131) (j := 7) (disj_ok hd (inL_in (o := 131) (lo := 6) (hi := 8) (by decide) (by omega) (by omega)))
  unfold C_shi ntOf noOf at *
  rw [e6, e7, t.I (o := 131) (j := 38) (disj_ok hd (inL_in (o := 131) (lo := 38) (hi := 39) (by decide) (by omega) (by omega)))]
  exact ShiR.cg (fun j hj => t.I (disj_ok hd (inL_in (o := 21) (lo := 0) (hi := 3) (by decide) (by omega) hj))) (fun j hj => t.I (disj_ok hd (inL_in (o := 22) (lo := 0) (hi := 64) (by decide) (by omega) hj))) (fun j hj => t.I (disj_ok hd (inL_in (o := 151) (lo := 0) (hi := 64) (by decide) (by omega) hj))) c
theorem C_roa.cq {L : SL} {b : Nat} {h h2 : PH} (t : SnQ L b h h2) (hd : disj L U_roa = true) (c : C_roa h b) : C_roa h2 b := by
  unfold C_roa at *
  rw [t.I (o := 131) (j := 40) (disj_ok hd (inL_in (o := 131) (lo := 40) (hi := 41) (by decide) (by omega) (by omega)))]
  exact RoaR.cg (fun j hj => t.I (disj_ok hd (inL_in (o := 23) (lo := 0) (hi := 3) (by decide) (by omega) hj))) (fun j hj => t.I (disj_ok hd (inL_in (o := 24) (lo := 0) (hi := 64) (by decide) (by omega) hj))) (fun j hj => t.I (disj_ok hd (inL_in (o := 152) (lo := 0) (hi := 64) (by decide) (by omega) hj))) c
theorem C_ord.cq {L : SL} {b : Nat} {h h2 : PH} (t : SnQ L b h h2) (hd : disj L U_ord = true) (c : C_ord h b) : C_ord h2 b := by
  unfold C_ord at *
  rw [t.I (o := 131) (j := 44) (disj_ok hd (inL_in (o := 131) (lo := 44) (hi := 45) (by decide) (by omega) (by omega)))]
  exact OrdR.cg (fun j hj => t.I (disj_ok hd (inL_in (o := 26) (lo := 0) (hi := 3) (by decide) (by omega) hj))) (fun j hj => t.I (disj_ok hd (inL_in (o := 27) (lo := 0) (hi := 24) (by decide) (by omega) hj))) (fun j hj => t.I (disj_ok hd (inL_in (o := 155) (lo := 0) (hi := 8) (by decide) (by omega) hj))) (fun j hj => t.I (disj_ok hd (inL_in (o := 156) (lo := 0) (hi := 8) (by decide) (by omega) hj))) (fun j hj => t.I (disj_ok hd (inL_in (o := 157) (lo := 0) (hi := 8) (by decide) (by omega) hj))) c
theorem C_han.cq {L : SL} {b : Nat} {h h2 : PH} (t : SnQ L b h h2) (hd : disj L U_han = true) (c : C_han h b) : C_han h2 b := by
  unfold C_han at *
  rw [t.I (o := 131) (j := 48) (disj_ok hd (inL_in (o := 131) (lo := 48) (hi := 49) (by decide) (by omega) (by omega)))]
  exact HanR.cg (fun j hj => t.I (disj_ok hd (inL_in (o := 28) (lo := 0) (hi := 3) (by decide) (by omega) hj))) (fun j hj => t.I (disj_ok hd (inL_in (o := 29) (lo := 0) (hi := 32) (by decide) (by omega) hj))) (fun j hj => t.I (disj_ok hd (inL_in (o := 158) (lo := 0) (hi := 6) (by decide) (by omega) hj))) c
theorem C_wei.cq {L : SL} {b : Nat} {h h2 : PH} (t : SnQ L b h h2) (hd : disj L U_wei = true) (c : C_wei h b) : C_wei h2 b := by
  unfold C_wei at *
  rw [t.I (o := 131) (j := 52) (disj_ok hd (inL_in (o := 131) (lo := 52) (hi := 53) (by decide) (by omega) (by omega)))]
  exact LisR.cg (fun j hj => t.I (disj_ok hd (inL_in (o := 30) (lo := 0) (hi := 3) (by decide) (by omega) hj))) (fun j hj => t.I (disj_ok hd (inL_in (o := 31) (lo := 0) (hi := 8) (by decide) (by omega) hj))) (fun j hj => t.I (disj_ok hd (inL_in (o := 161) (lo := 0) (hi := 8) (by decide) (by omega) hj))) c
theorem C_bag.cq {L : SL} {b : Nat} {h h2 : PH} (t : SnQ L b h h2) (hd : disj L U_bag = true) (c : C_bag h b) : C_bag h2 b := by
  unfold C_bag at *
  rw [t.I (o := 131) (j := 55) (disj_ok hd (inL_in (o := 131) (lo := 55) (hi := 57) (by decide) (by omega) (by omega))), t.I (o := 131) (j := 56) (disj_ok hd (inL_in (o := 131) (lo := 55) (hi := 57) (by decide) (by omega) (by omega)))]
  exact ⟨LisR.cg (fun j hj => t.I (disj_ok hd (inL_in (o := 32) (lo := 0) (hi := 3) (by decide) (by omega) hj))) (fun j hj => t.I (disj_ok hd (inL_in (o := 33) (lo := 0) (hi := 10) (by decide) (by omega) hj))) (fun j hj => t.I (disj_ok hd (inL_in (o := 163) (lo := 0) (hi := 10) (by decide) (by omega) hj))) c.1, WgdR.cg (fun j hj => t.I (disj_ok hd (inL_in (o := 34) (lo := 0) (hi := 3) (by decide) (by omega) hj))) (fun j hj => t.I (disj_ok hd (inL_in (o := 35) (lo := 0) (hi := 12) (by decide) (by omega) hj))) (fun j hj => t.I (disj_ok hd (inL_in (o := 164) (lo := 0) (hi := 6) (by decide) (by omega) hj))) (fun j hj => t.I (disj_ok hd (inL_in (o := 165) (lo := 0) (hi := 6) (by decide) (by omega) hj))) c.2⟩
theorem C_pri.cq {L : SL} {b : Nat} {h h2 : PH} (t : SnQ L b h h2) (hd : disj L U_pri = true) (c : C_pri h b) : C_pri h2 b := by
  unfold C_pri at *
  rw [t.I (o := 131) (j := 63) (disj_ok hd (inL_in (o := 131) (lo := 63) (hi := 64) (by decide) (by omega) (by omega)))]
  exact LisR.cg (fun j hj => t.I (disj_ok hd (inL_in (o := 36) (lo := 0) (hi := 3) (by decide) (by omega) hj))) (fun j hj => t.I (disj_ok hd (inL_in (o := 37) (lo := 0) (hi := 12) (by decide) (by omega) hj))) (fun j hj => t.I (disj_ok hd (inL_in (o := 169) (lo := 0) (hi := 12) (by decide) (by omega) hj))) c
theorem C_cnt.cq {L : SL} {b : Nat} {h h2 : PH} (t : SnQ L b h h2) (hd : disj L U_cnt = true) (c : C_cnt h b) : C_cnt h2 b := by
  exact FigR.cg (fun j hj => t.I (disj_ok hd (inL_in (o := 38) (lo := 0) (hi := 24) (by decide) (by omega) hj))) (fun j hj => t.I (disj_ok hd (inL_in (o := 168) (lo := 0) (hi := 24) (by decide) (by omega) hj))) c
theorem C_led.cq {L : SL} {b : Nat} {h h2 : PH} (t : SnQ L b h h2) (hd : disj L U_led = true) (c : C_led h b) : C_led h2 b := by
  exact FigR.cg (fun j hj => t.I (disj_ok hd (inL_in (o := 39) (lo := 0) (hi := 24) (by decide) (by omega) hj))) (fun j hj => t.I (disj_ok hd (inL_in (o := 172) (lo := 0) (hi := 24) (by decide) (by omega) hj))) c
theorem C_yea.cq {L : SL} {b : Nat} {h h2 : PH} (t : SnQ L b h h2) (hd : disj L U_yea = true) (c : C_yea h b) : C_yea h2 b := by
  unfold C_yea at *
  rw [t.I (o := 25) (j := 8) (disj_ok hd (inL_in (o := 25) (lo := 8) (hi := 10) (by decide) (by omega) (by omega))), t.I (o := 25) (j := 9) (disj_ok hd (inL_in (o := 25) (lo := 8) (hi := 10) (by decide) (by omega) (by omega))), t.I (o := 131) (j := 68) (disj_ok hd (inL_in (o := 131) (lo := 68) (hi := 70) (by decide) (by omega) (by omega))), t.I (o := 131) (j := 69) (disj_ok hd (inL_in (o := 131) (lo := 68) (hi := 70) (by decide) (by omega) (by omega)))]
  exact c
theorem C_log.cq {L : SL} {b : Nat} {h h2 : PH} (t : SnQ L b h h2) (hd : disj L U_log = true) (c : C_log h b) : C_log h2 b := by
  have e6 := t.I (o := 131) (j := 6) (disj_ok hd (inL_in (o := 131) (lo := 6) (hi := 8) (by decide) (by omega) (by omega)))
  have e7 := t.I (o := 131) (j := 7) (disj_ok hd (inL_in (o := 131) (lo := 6) (hi := 8) (by decide) (by omega) (by omega)))
  unfold C_log ntOf noOf at *
  rw [e6, e7]
  obtain ⟨hb, n, nx, w1, w2, w3, w4, w5, w6⟩ := c
  have er : ∀ i, i < n → ∀ j, j < 79 → rowAt h2 b n i j = rowAt h b n i j := fun i hi j hj => t.I (disj_ok hd (inL_in (o := 133) (lo := 0) (hi := 474) (by decide) (by omega) (by omega)))
  refine ⟨hb, n, nx, w1, w2, (t.I (o := 40) (j := 2) (disj_ok hd (inL_in (o := 40) (lo := 1) (hi := 3) (by decide) (by omega) (by omega)))).trans w3, (t.I (o := 131) (j := 3) (disj_ok hd (inL_in (o := 131) (lo := 3) (hi := 4) (by decide) (by omega) (by omega)))).trans w4, (t.I (o := 40) (j := 1) (disj_ok hd (inL_in (o := 40) (lo := 1) (hi := 3) (by decide) (by omega) (by omega)))).trans w5, fun i hi => ?_⟩
  obtain ⟨g1, g2⟩ := w6 i hi
  refine ⟨g1.cg hb.1 hb.2 (er i hi), ?_⟩
  have hm : (nx + 5 - i) % 6 < 6 := Nat.mod_lt _ (by omega)
  generalize hq : (nx + 5 - i) % 6 = q at hm
  unfold logAt at g2 ⊢
  rw [hq] at g2 ⊢
  rcases Nat.lt_or_ge q 1 with hq0 | hq0
  · obtain rfl : q = 0 := by omega
    exact RlR.cg hb.1 hb.2 (fun j hj => t.I (disj_ok hd (inL_in (o := 42) (lo := 0) (hi := 20) (by decide) (by omega) hj))) (fun j hj => t.I (disj_ok hd (inL_in (o := 43) (lo := 0) (hi := 12) (by decide) (by omega) hj))) (fun j hj => t.I (disj_ok hd (inL_in (o := 44) (lo := 0) (hi := 12) (by decide) (by omega) hj))) (fun j hj => t.I (disj_ok hd (inL_in (o := 45) (lo := 0) (hi := 12) (by decide) (by omega) hj))) (fun j hj => t.I (disj_ok hd (inL_in (o := 46) (lo := 0) (hi := 12) (by decide) (by omega) hj))) (fun j hj => t.I (disj_ok hd (inL_in (o := 47) (lo := 0) (hi := 12) (by decide) (by omega) hj))) (fun j hj => t.I (disj_ok hd (inL_in (o := 48) (lo := 0) (hi := 6) (by decide) (by omega) hj))) (fun j hj => t.I (disj_ok hd (inL_in (o := 49) (lo := 0) (hi := 6) (by decide) (by omega) hj))) (fun j hj => t.I (disj_ok hd (inL_in (o := 50) (lo := 0) (hi := 6) (by decide) (by omega) hj))) (fun j hj => t.I (disj_ok hd (inL_in (o := 51) (lo := 0) (hi := 6) (by decide) (by omega) hj))) (fun j hj => t.I (disj_ok hd (inL_in (o := 135) (lo := 0) (hi := 12) (by decide) (by omega) hj))) (fun j hj => t.I (disj_ok hd (inL_in (o := 136) (lo := 0) (hi := 12) (by decide) (by omega) hj))) (fun j hj => t.I (disj_ok hd (inL_in (o := 137) (lo := 0) (hi := 6) (by decide) (by omega) hj))) (fun j hj => t.I (disj_ok hd (inL_in (o := 138) (lo := 0) (hi := 6) (by decide) (by omega) hj))) (er i hi) g2
  rcases Nat.lt_or_ge q 2 with hq1 | hq1
  · obtain rfl : q = 1 := by omega
    exact RlR.cg hb.1 hb.2 (fun j hj => t.I (disj_ok hd (inL_in (o := 52) (lo := 0) (hi := 20) (by decide) (by omega) hj))) (fun j hj => t.I (disj_ok hd (inL_in (o := 53) (lo := 0) (hi := 12) (by decide) (by omega) hj))) (fun j hj => t.I (disj_ok hd (inL_in (o := 54) (lo := 0) (hi := 12) (by decide) (by omega) hj))) (fun j hj => t.I (disj_ok hd (inL_in (o := 55) (lo := 0) (hi := 12) (by decide) (by omega) hj))) (fun j hj => t.I (disj_ok hd (inL_in (o := 56) (lo := 0) (hi := 12) (by decide) (by omega) hj))) (fun j hj => t.I (disj_ok hd (inL_in (o := 57) (lo := 0) (hi := 12) (by decide) (by omega) hj))) (fun j hj => t.I (disj_ok hd (inL_in (o := 58) (lo := 0) (hi := 6) (by decide) (by omega) hj))) (fun j hj => t.I (disj_ok hd (inL_in (o := 59) (lo := 0) (hi := 6) (by decide) (by omega) hj))) (fun j hj => t.I (disj_ok hd (inL_in (o := 60) (lo := 0) (hi := 6) (by decide) (by omega) hj))) (fun j hj => t.I (disj_ok hd (inL_in (o := 61) (lo := 0) (hi := 6) (by decide) (by omega) hj))) (fun j hj => t.I (disj_ok hd (inL_in (o := 135) (lo := 0) (hi := 12) (by decide) (by omega) hj))) (fun j hj => t.I (disj_ok hd (inL_in (o := 136) (lo := 0) (hi := 12) (by decide) (by omega) hj))) (fun j hj => t.I (disj_ok hd (inL_in (o := 137) (lo := 0) (hi := 6) (by decide) (by omega) hj))) (fun j hj => t.I (disj_ok hd (inL_in (o := 138) (lo := 0) (hi := 6) (by decide) (by omega) hj))) (er i hi) g2
  rcases Nat.lt_or_ge q 3 with hq2 | hq2
  · obtain rfl : q = 2 := by omega
    exact RlR.cg hb.1 hb.2 (fun j hj => t.I (disj_ok hd (inL_in (o := 62) (lo := 0) (hi := 20) (by decide) (by omega) hj))) (fun j hj => t.I (disj_ok hd (inL_in (o := 63) (lo := 0) (hi := 12) (by decide) (by omega) hj))) (fun j hj => t.I (disj_ok hd (inL_in (o := 64) (lo := 0) (hi := 12) (by decide) (by omega) hj))) (fun j hj => t.I (disj_ok hd (inL_in (o := 65) (lo := 0) (hi := 12) (by decide) (by omega) hj))) (fun j hj => t.I (disj_ok hd (inL_in (o := 66) (lo := 0) (hi := 12) (by decide) (by omega) hj))) (fun j hj => t.I (disj_ok hd (inL_in (o := 67) (lo := 0) (hi := 12) (by decide) (by omega) hj))) (fun j hj => t.I (disj_ok hd (inL_in (o := 68) (lo := 0) (hi := 6) (by decide) (by omega) hj))) (fun j hj => t.I (disj_ok hd (inL_in (o := 69) (lo := 0) (hi := 6) (by decide) (by omega) hj))) (fun j hj => t.I (disj_ok hd (inL_in (o := 70) (lo := 0) (hi := 6) (by decide) (by omega) hj))) (fun j hj => t.I (disj_ok hd (inL_in (o := 71) (lo := 0) (hi := 6) (by decide) (by omega) hj))) (fun j hj => t.I (disj_ok hd (inL_in (o := 135) (lo := 0) (hi := 12) (by decide) (by omega) hj))) (fun j hj => t.I (disj_ok hd (inL_in (o := 136) (lo := 0) (hi := 12) (by decide) (by omega) hj))) (fun j hj => t.I (disj_ok hd (inL_in (o := 137) (lo := 0) (hi := 6) (by decide) (by omega) hj))) (fun j hj => t.I (disj_ok hd (inL_in (o := 138) (lo := 0) (hi := 6) (by decide) (by omega) hj))) (er i hi) g2
  rcases Nat.lt_or_ge q 4 with hq3 | hq3
  · obtain rfl : q = 3 := by omega
    exact RlR.cg hb.1 hb.2 (fun j hj => t.I (disj_ok hd (inL_in (o := 72) (lo := 0) (hi := 20) (by decide) (by omega) hj))) (fun j hj => t.I (disj_ok hd (inL_in (o := 73) (lo := 0) (hi := 12) (by decide) (by omega) hj))) (fun j hj => t.I (disj_ok hd (inL_in (o := 74) (lo := 0) (hi := 12) (by decide) (by omega) hj))) (fun j hj => t.I (disj_ok hd (inL_in (o := 75) (lo := 0) (hi := 12) (by decide) (by omega) hj))) (fun j hj => t.I (disj_ok hd (inL_in (o := 76) (lo := 0) (hi := 12) (by decide) (by omega) hj))) (fun j hj => t.I (disj_ok hd (inL_in (o := 77) (lo := 0) (hi := 12) (by decide) (by omega) hj))) (fun j hj => t.I (disj_ok hd (inL_in (o := 78) (lo := 0) (hi := 6) (by decide) (by omega) hj))) (fun j hj => t.I (disj_ok hd (inL_in (o := 79) (lo := 0) (hi := 6) (by decide) (by omega) hj))) (fun j hj => t.I (disj_ok hd (inL_in (o := 80) (lo := 0) (hi := 6) (by decide) (by omega) hj))) (fun j hj => t.I (disj_ok hd (inL_in (o := 81) (lo := 0) (hi := 6) (by decide) (by omega) hj))) (fun j hj => t.I (disj_ok hd (inL_in (o := 135) (lo := 0) (hi := 12) (by decide) (by omega) hj))) (fun j hj => t.I (disj_ok hd (inL_in (o := 136) (lo := 0) (hi := 12) (by decide) (by omega) hj))) (fun j hj => t.I (disj_ok hd (inL_in (o := 137) (lo := 0) (hi := 6) (by decide) (by omega) hj))) (fun j hj => t.I (disj_ok hd (inL_in (o := 138) (lo := 0) (hi := 6) (by decide) (by omega) hj))) (er i hi) g2
  rcases Nat.lt_or_ge q 5 with hq4 | hq4
  · obtain rfl : q = 4 := by omega
    exact RlR.cg hb.1 hb.2 (fun j hj => t.I (disj_ok hd (inL_in (o := 82) (lo := 0) (hi := 20) (by decide) (by omega) hj))) (fun j hj => t.I (disj_ok hd (inL_in (o := 83) (lo := 0) (hi := 12) (by decide) (by omega) hj))) (fun j hj => t.I (disj_ok hd (inL_in (o := 84) (lo := 0) (hi := 12) (by decide) (by omega) hj))) (fun j hj => t.I (disj_ok hd (inL_in (o := 85) (lo := 0) (hi := 12) (by decide) (by omega) hj))) (fun j hj => t.I (disj_ok hd (inL_in (o := 86) (lo := 0) (hi := 12) (by decide) (by omega) hj))) (fun j hj => t.I (disj_ok hd (inL_in (o := 87) (lo := 0) (hi := 12) (by decide) (by omega) hj))) (fun j hj => t.I (disj_ok hd (inL_in (o := 88) (lo := 0) (hi := 6) (by decide) (by omega) hj))) (fun j hj => t.I (disj_ok hd (inL_in (o := 89) (lo := 0) (hi := 6) (by decide) (by omega) hj))) (fun j hj => t.I (disj_ok hd (inL_in (o := 90) (lo := 0) (hi := 6) (by decide) (by omega) hj))) (fun j hj => t.I (disj_ok hd (inL_in (o := 91) (lo := 0) (hi := 6) (by decide) (by omega) hj))) (fun j hj => t.I (disj_ok hd (inL_in (o := 135) (lo := 0) (hi := 12) (by decide) (by omega) hj))) (fun j hj => t.I (disj_ok hd (inL_in (o := 136) (lo := 0) (hi := 12) (by decide) (by omega) hj))) (fun j hj => t.I (disj_ok hd (inL_in (o := 137) (lo := 0) (hi := 6) (by decide) (by omega) hj))) (fun j hj => t.I (disj_ok hd (inL_in (o := 138) (lo := 0) (hi := 6) (by decide) (by omega) hj))) (er i hi) g2
  have hq5 : q < 6 := hm
  obtain rfl : q = 5 := by omega
  exact RlR.cg hb.1 hb.2 (fun j hj => t.I (disj_ok hd (inL_in (o := 92) (lo := 0) (hi := 20) (by decide) (by omega) hj))) (fun j hj => t.I (disj_ok hd (inL_in (o := 93) (lo := 0) (hi := 12) (by decide) (by omega) hj))) (fun j hj => t.I (disj_ok hd (inL_in (o := 94) (lo := 0) (hi := 12) (by decide) (by omega) hj))) (fun j hj => t.I (disj_ok hd (inL_in (o := 95) (lo := 0) (hi := 12) (by decide) (by omega) hj))) (fun j hj => t.I (disj_ok hd (inL_in (o := 96) (lo := 0) (hi := 12) (by decide) (by omega) hj))) (fun j hj => t.I (disj_ok hd (inL_in (o := 97) (lo := 0) (hi := 12) (by decide) (by omega) hj))) (fun j hj => t.I (disj_ok hd (inL_in (o := 98) (lo := 0) (hi := 6) (by decide) (by omega) hj))) (fun j hj => t.I (disj_ok hd (inL_in (o := 99) (lo := 0) (hi := 6) (by decide) (by omega) hj))) (fun j hj => t.I (disj_ok hd (inL_in (o := 100) (lo := 0) (hi := 6) (by decide) (by omega) hj))) (fun j hj => t.I (disj_ok hd (inL_in (o := 101) (lo := 0) (hi := 6) (by decide) (by omega) hj))) (fun j hj => t.I (disj_ok hd (inL_in (o := 135) (lo := 0) (hi := 12) (by decide) (by omega) hj))) (fun j hj => t.I (disj_ok hd (inL_in (o := 136) (lo := 0) (hi := 12) (by decide) (by omega) hj))) (fun j hj => t.I (disj_ok hd (inL_in (o := 137) (lo := 0) (hi := 6) (by decide) (by omega) hj))) (fun j hj => t.I (disj_ok hd (inL_in (o := 138) (lo := 0) (hi := 6) (by decide) (by omega) hj))) (er i hi) g2
theorem C_rdr.cq {L : SL} {b : Nat} {h h2 : PH} (t : SnQ L b h h2) (hd : disj L U_rdr = true) (c : C_rdr h b) : C_rdr h2 b := by
  unfold C_rdr at *
  rw [t.I (o := 102) (j := 1) (disj_ok hd (inL_in (o := 102) (lo := 1) (hi := 4) (by decide) (by omega) (by omega))), t.I (o := 131) (j := 14) (disj_ok hd (inL_in (o := 131) (lo := 14) (hi := 15) (by decide) (by omega) (by omega))), t.I (o := 102) (j := 2) (disj_ok hd (inL_in (o := 102) (lo := 1) (hi := 4) (by decide) (by omega) (by omega))), t.I (o := 131) (j := 34) (disj_ok hd (inL_in (o := 131) (lo := 34) (hi := 36) (by decide) (by omega) (by omega))), t.I (o := 102) (j := 3) (disj_ok hd (inL_in (o := 102) (lo := 1) (hi := 4) (by decide) (by omega) (by omega))), t.I (o := 131) (j := 35) (disj_ok hd (inL_in (o := 131) (lo := 34) (hi := 36) (by decide) (by omega) (by omega)))]
  exact ⟨c.1, c.2.1, c.2.2.1, FigR.cg (fun j hj => t.I (disj_ok hd (inL_in (o := 103) (lo := 0) (hi := 400) (by decide) (by omega) hj))) (fun j hj => t.I (disj_ok hd (inL_in (o := 140) (lo := 0) (hi := 400) (by decide) (by omega) hj))) c.2.2.2⟩
theorem C_msc.cq {L : SL} {b : Nat} {h h2 : PH} (t : SnQ L b h h2) (hd : disj L U_msc = true) (c : C_msc h b) : C_msc h2 b := by
  unfold C_msc at *
  rw [t.I (o := 131) (j := 5) (disj_ok hd (inL_in (o := 131) (lo := 5) (hi := 6) (by decide) (by omega) (by omega))), t.I (o := 105) (j := 0) (disj_ok hd (inL_in (o := 105) (lo := 0) (hi := 1) (by decide) (by omega) (by omega))), t.I (o := 110) (j := 0) (disj_ok hd (inL_in (o := 110) (lo := 0) (hi := 1) (by decide) (by omega) (by omega)))]
  exact ⟨c.1, c.2.1, fun j hj => by rw [t.I (disj_ok hd (inL_in (o := 141) (lo := 0) (hi := 144) (by decide) (by omega) hj))]; exact c.2.2 j hj⟩
/-! ===== a land as the class and the reference have it ===== -/
def LR (F G : Nat → Nat → Int32) : Prop := G 131 6 = nI (G 131 6).toNatClampNeg ∧ G 131 7 = nI (G 131 7).toNatClampNeg ∧ StatOK (G 131 6).toNatClampNeg (G 131 7).toNatClampNeg (G 135) (G 136) (G 137) (G 138) ∧ RowOK (G 131 6).toNatClampNeg (G 131 7).toNatClampNeg (G 132) ∧ RlR (F 2) (F 3) (F 4) (F 5) (F 6) (F 7) (F 8) (F 9) (F 10) (F 11) (G 131 6).toNatClampNeg (G 131 7).toNatClampNeg (G 135) (G 136) (G 137) (G 138) (G 132) ∧ BookR (F 12) (G 139) ∧ LawR (F 13 2) (F 14) (F 15) (F 16) (G 142 0) (G 143) (G 144) (G 145) (G 146) (G 147) (G 148) ∧ KinR (G 131 6).toNatClampNeg (F 19) (F 20) (G 131 36) (G 150) ∧ ShiR (G 131 6).toNatClampNeg (G 131 7).toNatClampNeg (F 21) (F 22) (G 131 38) (G 151) ∧ RoaR (F 23) (F 24) (G 131 40) (G 152) ∧ OrdR (F 26) (F 27) (G 131 44) (G 155) (G 156) (G 157) ∧ HanR (F 28) (F 29) (G 131 48) (G 158) ∧ LisR 8 1 40 (F 30) (F 31) (G 131 52) (G 161) ∧ LisR 10 1 99 (F 32) (F 33) (G 131 55) (G 163) ∧ WgdR (G 131 55).toNatClampNeg (F 34) (F 35) (G 131 56) (G 164) (G 165) ∧ LisR 12 0 99 (F 36) (F 37) (G 131 63) (G 169) ∧ FigR 24 24 999 999 (F 38) (G 168) ∧ FigR 24 16 99 999 (F 39) (G 172) ∧ YeaR (F 25 8) (F 25 9) (G 131 68) (G 131 69)
def sl (o j : Nat) : Nat := if o = 131 then (if j = 6 then 79 else if j = 7 then 80 else if j = 36 then 81 else if j = 38 then 82 else if j = 40 then 83 else if j = 44 then 84 else if j = 48 then 85 else if j = 52 then 86 else if j = 55 then 87 else if j = 56 then 88 else if j = 63 then 89 else if j = 68 then 90 else if j = 69 then 91 else 0) else if o = 132 then j else if o = 135 then 92 + 4 * j else if o = 136 then 93 + 4 * j else if o = 150 then 94 + 4 * j else if o = 169 then 95 + 4 * j else if o = 137 then 140 + 5 * j else if o = 138 then 141 + 5 * j else if o = 158 then 142 + 5 * j else if o = 164 then 143 + 5 * j else if o = 165 then 144 + 5 * j else if o = 155 then 170 + 4 * j else if o = 156 then 171 + 4 * j else if o = 157 then 172 + 4 * j else if o = 161 then 173 + 4 * j else if o = 163 then 202 + j else if o = 168 then 212 + 2 * j else if o = 172 then 213 + 2 * j else if o = 151 then 260 + j else if o = 152 then 324 + j else if o = 139 then 388 + j else if o = 142 then 988 else if o = 143 then 989 + 4 * j else if o = 144 then 990 + 4 * j else if o = 145 then 991 + 4 * j else if o = 146 then 992 + 4 * j else if o = 147 then 1053 + 2 * j else if o = 148 then 1054 + 2 * j else 0
def GDD : SL := [(131, 6, 7), (131, 7, 8), (131, 36, 37), (131, 38, 39), (131, 40, 41), (131, 44, 45), (131, 48, 49), (131, 52, 53), (131, 55, 56), (131, 56, 57), (131, 63, 64), (131, 68, 69), (131, 69, 70), (132, 0, 79), (135, 0, 12), (136, 0, 12), (150, 0, 12), (169, 0, 12), (137, 0, 6), (138, 0, 6), (158, 0, 6), (164, 0, 6), (165, 0, 6), (155, 0, 8), (156, 0, 8), (157, 0, 8), (161, 0, 8), (163, 0, 10), (168, 0, 24), (172, 0, 24), (151, 0, 64), (152, 0, 64), (139, 0, 600), (142, 0, 1), (143, 0, 16), (144, 0, 16), (145, 0, 16), (146, 0, 16), (147, 0, 400), (148, 0, 400)]
set_option maxRecDepth 100000 in
theorem sl_all : GDD.all (fun p => (List.range p.2.2).all (fun j => decide (j < p.2.1) || (mM (sl p.1 j) == (p.1, j) && decide (sl p.1 j < 1853)))) = true := by decide +kernel
theorem sl_ok {o j : Nat} (h : inL GDD o j = true) : mM (sl o j) = (o, j) ∧ sl o j < 1853 := by
  unfold inL at h
  rw [List.any_eq_true] at h
  obtain ⟨p, hp, h⟩ := h
  simp only [Bool.and_eq_true, beq_iff_eq, decide_eq_true_eq] at h
  obtain ⟨rfl, h1, h2⟩ := h
  have := List.all_eq_true.mp (List.all_eq_true.mp sl_all p hp) j (List.mem_range.mpr h2)
  simp only [Bool.or_eq_true, Bool.and_eq_true, beq_iff_eq, decide_eq_true_eq] at this
  rcases this with z | z
  · omega
  · exact z
def lvF (h : PH) (b e : Nat) (i j : Nat) : Int32 := gI h (b + (e + i)) j
def lvG (h : PH) (b : Nat) (o j : Nat) : Int32 := gI h (b + o) j
def imG (h : PH) (b : Nat) (o j : Nat) : Int32 := gI h (b + 173) (sl o j)
theorem LR_img {h : PH} {b : Nat} : LR (lvF h b 173) (imG h b) ↔ LandImg h b := Iff.rfl
def W10 (F : Nat → Nat → Int32) : Prop := F 14 0 = nI 4 ∧ F 19 0 = nI 4 ∧ F 21 0 = nI 4 ∧ F 23 0 = nI 4 ∧ F 26 0 = nI 3 ∧ F 28 0 = nI 2 ∧ F 30 0 = nI 1 ∧ F 32 0 = nI 1 ∧ F 34 0 = nI 2 ∧ F 36 0 = nI 1
theorem LR.w {F G : Nat → Nat → Int32} (l : LR F G) : W10 F := by
  obtain ⟨-, -, -, -, -, -, ⟨n0, u0, _, _, r0, -⟩, ⟨n1, _, r1, -⟩, ⟨n2, _, r2, -⟩, ⟨n3, _, r3, -⟩, ⟨n4, _, r4, -⟩, ⟨n5, _, r5, -⟩, ⟨n6, _, r6, -⟩, ⟨n7, _, r7, -⟩, ⟨n8, _, r8, -⟩, ⟨n9, _, r9, -⟩, -⟩ := l
  exact ⟨r0.1, r1.1, r2.1, r3.1, r4.1, r5.1, r6.1, r7.1, r8.1, r9.1⟩
theorem KinR.fw {nt : Nat} {F F' C : Nat → Int32} {many : Int32} {mk : Nat → Int32} (e0 : F' 0 = F 0) (e2 : F' 2 = F 2) (h : KinR nt F C many mk) : KinR nt F' C many mk := by
  obtain ⟨n, h1, h2, h3⟩ := h
  exact ⟨n, h1, ⟨by rw [e0]; exact h2.1, by rw [e2]; exact h2.2⟩, h3⟩
theorem ShiR.fw {nt no : Nat} {F F' C : Nat → Int32} {many : Int32} {mk : Nat → Int32} (e0 : F' 0 = F 0) (e2 : F' 2 = F 2) (h : ShiR nt no F C many mk) : ShiR nt no F' C many mk := by
  obtain ⟨n, h1, h2, h3⟩ := h
  exact ⟨n, h1, ⟨by rw [e0]; exact h2.1, by rw [e2]; exact h2.2⟩, h3⟩
theorem RoaR.fw {F F' C : Nat → Int32} {many : Int32} {mk : Nat → Int32} (e0 : F' 0 = F 0) (e2 : F' 2 = F 2) (h : RoaR F C many mk) : RoaR F' C many mk := by
  obtain ⟨n, h1, h2, h3⟩ := h
  exact ⟨n, h1, ⟨by rw [e0]; exact h2.1, by rw [e2]; exact h2.2⟩, h3⟩
theorem OrdR.fw {F F' C : Nat → Int32} {many : Int32} {m1 m2 m3 : Nat → Int32} (e0 : F' 0 = F 0) (e2 : F' 2 = F 2) (h : OrdR F C many m1 m2 m3) : OrdR F' C many m1 m2 m3 := by
  obtain ⟨n, h1, h2, h3⟩ := h
  exact ⟨n, h1, ⟨by rw [e0]; exact h2.1, by rw [e2]; exact h2.2⟩, h3⟩
theorem HanR.fw {F F' C : Nat → Int32} {many : Int32} {mk : Nat → Int32} (e0 : F' 0 = F 0) (e2 : F' 2 = F 2) (h : HanR F C many mk) : HanR F' C many mk := by
  obtain ⟨n, h1, h2, h3⟩ := h
  exact ⟨n, h1, ⟨by rw [e0]; exact h2.1, by rw [e2]; exact h2.2⟩, h3⟩
theorem LisR.fw {M lo hi : Nat} {F F' C : Nat → Int32} {many : Int32} {mk : Nat → Int32} (e0 : F' 0 = F 0) (e2 : F' 2 = F 2) (h : LisR M lo hi F C many mk) : LisR M lo hi F' C many mk := by
  obtain ⟨n, h1, h2, h3⟩ := h
  exact ⟨n, h1, ⟨by rw [e0]; exact h2.1, by rw [e2]; exact h2.2⟩, h3⟩
theorem WgdR.fw {nb : Nat} {F F' C : Nat → Int32} {many : Int32} {m1 m2 : Nat → Int32} (e0 : F' 0 = F 0) (e2 : F' 2 = F 2) (h : WgdR nb F C many m1 m2) : WgdR nb F' C many m1 m2 := by
  obtain ⟨n, h1, h2, h3⟩ := h
  exact ⟨n, h1, ⟨by rw [e0]; exact h2.1, by rw [e2]; exact h2.2⟩, h3⟩
theorem LawR.fw {used many : Int32} {F F' C code mw mf mn mt mo ma : Nat → Int32} (e0 : F' 0 = F 0) (e2 : F' 2 = F 2) (h : LawR used F C code many mw mf mn mt mo ma) : LawR used F' C code many mw mf mn mt mo ma := by
  obtain ⟨n, u, h1, h2, h3, h4⟩ := h
  exact ⟨n, u, h1, h2, ⟨by rw [e0]; exact h3.1, by rw [e2]; exact h3.2⟩, h4⟩
theorem RlR.fw {F F' ca gr co we att ga ns so ti : Nat → Int32} {nt no : Nat} {mca mgr mns mso g : Nat → Int32} (e : ∀ j, (j ≤ 1 ∨ (7 ≤ j ∧ j ≤ 9) ∨ (14 ≤ j ∧ j < 20)) → F' j = F j) (h : RlR F ca gr co we att ga ns so ti nt no mca mgr mns mso g) : RlR F' ca gr co we att ga ns so ti nt no mca mgr mns mso g := by
  obtain ⟨h1, h2, h3, h4, h5, h6, h7, h8, h9, h10, h11, h12⟩ := h
  exact ⟨(e 1 (by omega)).trans h1, (e 9 (by omega)).trans h2, (e 0 (by omega)).trans h3, (e 15 (by omega)).trans h4, (e 16 (by omega)).trans h5, (e 17 (by omega)).trans h6, (e 18 (by omega)).trans h7, (e 19 (by omega)).trans h8, (e 14 (by omega)).trans h9, (e 7 (by omega)).trans h10, (e 8 (by omega)).trans h11, h12⟩
theorem LR.cg {F G F' G' : Nat → Nat → Int32} (l : LR F G) (w : W10 F') (hF : ∀ i j, inL LDD i j = true → F' i j = F i j) (hG : ∀ o j, inL GDD o j = true → G' o j = G o j) : LR F' G' := by
  have f : ∀ i lo hi j, (i, lo, hi) ∈ LDD → lo ≤ j → j < hi → F' i j = F i j := fun i lo hi j hm h1 h2 => hF i j (inL_in hm h1 h2)
  have g : ∀ o hi, (o, 0, hi) ∈ GDD → ∀ j, j < hi → G' o j = G o j := fun o hi hm j h2 => hG o j (inL_in hm (Nat.zero_le _) h2)
  have w0 := l.w
  obtain ⟨a14, a19, a21, a23, a26, a28, a30, a32, a34, a36⟩ := w
  obtain ⟨b14, b19, b21, b23, b26, b28, b30, b32, b34, b36⟩ := w0
  obtain ⟨l1, l2, l3, l4, l5, l6, l7, l8, l9, l10, l11, l12, l13, l14, l15, l16, l17, l18, l19⟩ := l
  have n6 : G' 131 6 = G 131 6 := hG 131 6 (by decide)
  have n7 : G' 131 7 = G 131 7 := hG 131 7 (by decide)
  unfold LR
  rw [n6, n7, hG 131 36 (by decide), hG 131 38 (by decide), hG 131 40 (by decide), hG 131 44 (by decide), hG 131 48 (by decide), hG 131 52 (by decide), hG 131 55 (by decide), hG 131 56 (by decide), hG 131 63 (by decide), hG 131 68 (by decide), hG 131 69 (by decide), hG 142 0 (by decide), f 13 2 3 2 (by decide) (by omega) (by omega), f 25 8 9 8 (by decide) (by omega) (by omega), f 25 9 10 9 (by decide) (by omega) (by omega)]
  have fr : ∀ j, (j ≤ 1 ∨ (7 ≤ j ∧ j ≤ 9) ∨ (14 ≤ j ∧ j < 20)) → F' 2 j = F 2 j := by
    intro j hj
    have h0 : j < 20 := by omega
    have key : ∀ j : Fin 20, (j.val ≤ 1 ∨ (7 ≤ j.val ∧ j.val ≤ 9) ∨ (14 ≤ j.val ∧ j.val < 20)) → inL LDD 2 j.val = true := by decide
    exact hF 2 j (key ⟨j, h0⟩ hj)
  refine ⟨l1, l2, l3.cg (g 135 12 (by decide)) (g 136 12 (by decide)) (g 137 6 (by decide)) (g 138 6 (by decide)), l4.cg l3.1 l3.2.1 (g 132 79 (by decide)), ?_, l6.cg (fun j hj => f 12 0 600 j (by decide) (by omega) hj) (g 139 600 (by decide)), ?_, ?_, ?_, ?_, ?_, ?_, ?_, ?_, ?_, ?_, l17.cg (fun j hj => f 38 0 24 j (by decide) (by omega) hj) (g 168 24 (by decide)), l18.cg (fun j hj => f 39 0 24 j (by decide) (by omega) hj) (g 172 24 (by decide)), l19⟩
  · exact RlR.fw fr (RlR.cg l3.1 l3.2.1 (fun j _ => rfl) (fun j hj => f 3 0 12 j (by decide) (by omega) hj) (fun j hj => f 4 0 12 j (by decide) (by omega) hj) (fun j hj => f 5 0 12 j (by decide) (by omega) hj) (fun j hj => f 6 0 12 j (by decide) (by omega) hj) (fun j hj => f 7 0 12 j (by decide) (by omega) hj) (fun j hj => f 8 0 6 j (by decide) (by omega) hj) (fun j hj => f 9 0 6 j (by decide) (by omega) hj) (fun j hj => f 10 0 6 j (by decide) (by omega) hj) (fun j hj => f 11 0 6 j (by decide) (by omega) hj) (g 135 12 (by decide)) (g 136 12 (by decide)) (g 137 6 (by decide)) (g 138 6 (by decide)) (g 132 79 (by decide)) l5)
  · exact LawR.fw (a14.trans b14.symm) (f 14 2 3 2 (by decide) (by omega) (by omega)) (l7.cg (fun j _ => rfl) (fun j hj => f 15 0 64 j (by decide) (by omega) hj) (fun j hj => f 16 0 400 j (by decide) (by omega) hj) (g 143 16 (by decide)) (g 144 16 (by decide)) (g 145 16 (by decide)) (g 146 16 (by decide)) (g 147 400 (by decide)) (g 148 400 (by decide)))
  · exact KinR.fw (a19.trans b19.symm) (f 19 2 3 2 (by decide) (by omega) (by omega)) (l8.cg (fun j _ => rfl) (fun j hj => f 20 0 64 j (by decide) (by omega) hj) (g 150 12 (by decide)))
  · exact ShiR.fw (a21.trans b21.symm) (f 21 2 3 2 (by decide) (by omega) (by omega)) (l9.cg (fun j _ => rfl) (fun j hj => f 22 0 64 j (by decide) (by omega) hj) (g 151 64 (by decide)))
  · exact RoaR.fw (a23.trans b23.symm) (f 23 2 3 2 (by decide) (by omega) (by omega)) (l10.cg (fun j _ => rfl) (fun j hj => f 24 0 64 j (by decide) (by omega) hj) (g 152 64 (by decide)))
  · exact OrdR.fw (a26.trans b26.symm) (f 26 2 3 2 (by decide) (by omega) (by omega)) (l11.cg (fun j _ => rfl) (fun j hj => f 27 0 24 j (by decide) (by omega) hj) (g 155 8 (by decide)) (g 156 8 (by decide)) (g 157 8 (by decide)))
  · exact HanR.fw (a28.trans b28.symm) (f 28 2 3 2 (by decide) (by omega) (by omega)) (l12.cg (fun j _ => rfl) (fun j hj => f 29 0 32 j (by decide) (by omega) hj) (g 158 6 (by decide)))
  · exact LisR.fw (a30.trans b30.symm) (f 30 2 3 2 (by decide) (by omega) (by omega)) (l13.cg (fun j _ => rfl) (fun j hj => f 31 0 8 j (by decide) (by omega) hj) (g 161 8 (by decide)))
  · exact LisR.fw (a32.trans b32.symm) (f 32 2 3 2 (by decide) (by omega) (by omega)) (l14.cg (fun j _ => rfl) (fun j hj => f 33 0 10 j (by decide) (by omega) hj) (g 163 10 (by decide)))
  · exact WgdR.fw (a34.trans b34.symm) (f 34 2 3 2 (by decide) (by omega) (by omega)) (l15.cg (fun j _ => rfl) (fun j hj => f 35 0 12 j (by decide) (by omega) hj) (g 164 6 (by decide)) (g 165 6 (by decide)))
  · exact LisR.fw (a36.trans b36.symm) (f 36 2 3 2 (by decide) (by omega) (by omega)) (l16.cg (fun j _ => rfl) (fun j hj => f 37 0 12 j (by decide) (by omega) hj) (g 169 12 (by decide)))
