/-! ===== rows for the calls ===== -/
section BASE
variable {h : PH} {a b k j ci n : Nat} {v x : Int32}
theorem inb_dec (hj : j < 2147483648) : inb (nI j) n = decide (j < n) := by
  unfold inb
  have h1 : ¬ nI j < 0 := nI_pos (by omega)
  rw [tn_nI (by omega)]
  by_cases h2 : n ≤ j
  · simp [h1, h2]
  · simp [h1, h2]; omega
theorem wrA_n (hj : j < 2147483648) : wrA h a (nI j) v = if (gK h a).1 = 1 ∧ j < (gK h a).2 then some (sI h a j v) else none := by
  unfold wrA isA
  rw [inb_dec hj, tn_nI hj]
  simp
theorem rdA_n (hj : j < 2147483648) : rdA h a (nI j) = if (gK h a).1 = 1 ∧ j < (gK h a).2 then some (gI h a j) else none := by
  unfold rdA isA
  rw [inb_dec hj, tn_nI hj]
  simp
theorem wrA_l (hj : (OfNat.ofNat j : Nat) < 2147483648) : wrA h a (no_index (OfNat.ofNat j : Int32)) v = if (gK h a).1 = 1 ∧ (OfNat.ofNat j : Nat) < (gK h a).2 then some (sI h a (OfNat.ofNat j : Nat) v) else none := wrA_n hj
theorem rdA_l (hj : (OfNat.ofNat j : Nat) < 2147483648) : rdA h a (no_index (OfNat.ofNat j : Int32)) = if (gK h a).1 = 1 ∧ (OfNat.ofNat j : Nat) < (gK h a).2 then some (gI h a (OfNat.ofNat j : Nat)) else none := rdA_n hj
end BASE
/-- both ask alike whether a number is between 0 and a bound -/
theorem in_cases (x m : Int32) (n : Nat) (hm : m = nI n) (hn : n < 2147483648) : (∃ k, k ≤ n ∧ x = nI k ∧ (∀ h, f_Tc_within x m h = some (1, h)) ∧ ∀ a h, f_Mo_isIn a x 0 m h = some (1, h)) ∨ ((∀ h, f_Tc_within x m h = some (0, h)) ∧ ∀ a h, f_Mo_isIn a x 0 m h = some (0, h)) := by
  by_cases h0 : x < 0
  · refine Or.inr ⟨fun h => ?_, fun a h => ?_⟩
    · unfold f_Tc_within; rw [if_pos h0, rtZ_0]
    · unfold f_Mo_isIn; rw [if_pos h0, rtZ_0]
  · by_cases h1 : m < x
    · refine Or.inr ⟨fun h => ?_, fun a h => ?_⟩
      · unfold f_Tc_within; rw [if_neg h0, if_pos h1, rtZ_0]
      · unfold f_Mo_isIn; rw [if_neg h0, if_pos h1, rtZ_0]
    · obtain ⟨k, hk, rfl⟩ := I_upto hn h0 (by rw [← hm]; exact h1)
      refine Or.inl ⟨k, hk, rfl, fun h => ?_, fun a h => ?_⟩
      · unfold f_Tc_within; rw [if_neg h0, if_neg h1, rtZ_1]
      · unfold f_Mo_isIn; rw [if_neg h0, if_neg h1, rtZ_1]
def UALL : SL := U_stat ++ (U_realm ++ (U_book ++ (U_law ++ (U_kin ++ (U_shi ++ (U_roa ++ (U_ord ++ (U_han ++ (U_wei ++ (U_bag ++ (U_pri ++ (U_cnt ++ (U_led ++ (U_yea ++ (U_log ++ (U_rdr ++ (U_msc ++ U_img)))))))))))))))))
theorem disj_l {L M N : SL} (h : disj L (M ++ N) = true) : disj L M = true ∧ disj L N = true := by
  unfold disj at *
  simp only [List.all_eq_true, List.all_append, Bool.and_eq_true] at *
  exact ⟨fun p hp => (h p hp).1, fun p hp => (h p hp).2⟩
theorem Inv.cg {L : SL} {b : Nat} {h h2 : PH} (t : Sn L b h h2) (hd : disj L UALL = true) (I : Inv b h) : Inv b h2 := by
  obtain ⟨s, cd, c_stat, c_realm, c_book, c_law, c_kin, c_shi, c_roa, c_ord, c_han, c_wei, c_bag, c_pri, c_cnt, c_led, c_yea, c_log, c_rdr, c_msc, c_img⟩ := I
  unfold UALL at hd
  obtain ⟨d1, hd⟩ := disj_l hd
  obtain ⟨d2, hd⟩ := disj_l hd
  obtain ⟨d3, hd⟩ := disj_l hd
  obtain ⟨d4, hd⟩ := disj_l hd
  obtain ⟨d5, hd⟩ := disj_l hd
  obtain ⟨d6, hd⟩ := disj_l hd
  obtain ⟨d7, hd⟩ := disj_l hd
  obtain ⟨d8, hd⟩ := disj_l hd
  obtain ⟨d9, hd⟩ := disj_l hd
  obtain ⟨d10, hd⟩ := disj_l hd
  obtain ⟨d11, hd⟩ := disj_l hd
  obtain ⟨d12, hd⟩ := disj_l hd
  obtain ⟨d13, hd⟩ := disj_l hd
  obtain ⟨d14, hd⟩ := disj_l hd
  obtain ⟨d15, hd⟩ := disj_l hd
  obtain ⟨d16, hd⟩ := disj_l hd
  obtain ⟨d17, hd⟩ := disj_l hd
  obtain ⟨d18, d19⟩ := disj_l hd
  exact ⟨s.sn t, cd.cg t, c_stat.cg t d1, c_realm.cg t d2, c_book.cg t d3, c_law.cg t d4, c_kin.cg t d5, c_shi.cg t d6, c_roa.cg t d7, c_ord.cg t d8, c_han.cg t d9, c_wei.cg t d10, c_bag.cg t d11, c_pri.cg t d12, c_cnt.cg t d13, c_led.cg t d14, c_yea.cg t d15, c_log.cg t d16, c_rdr.cg t d17, c_msc.cg t d18, c_img.cg t d19⟩
/-- both refuse, or only tell -/
theorem both_ref {b : Nat} {h : PH} {fc fm : PH → Option (Int32 × PH)} {r : Int32} (I : Inv b h) (e1 : fc h = some (r, h)) (e2 : fm h = some (r, sI h (b + 131) 0 0)) : Both (Inv b) h fc fm :=
  ⟨r, h, _, e1, rfl, fun _ q => q, e2, rfl, Inv.cg (L := [(131, 0, 1)]) (Sn.rf.put 131 0 0 (by decide)) (by decide) I⟩
theorem both_ro {L M : SL} {b : Nat} {h h1 h2 : PH} {fc fm : PH → Option (Int32 × PH)} {r : Int32} (I : Inv b h) (e1 : fc h = some (r, h1)) (t1 : Sn L b h h1) (e2 : fm h1 = some (r, h2)) (t2 : Sn M b h1 h2) (hd : disj (L ++ M) UALL = true) : Both (Inv b) h fc fm :=
  ⟨r, h1, h2, e1, t1.2.2.2.1, fun q hq => by rw [t1.1]; exact hq, e2, t2.2.2.2.1.trans t1.2.2.2.1, Inv.cg (t1.app t2) hd I⟩
theorem both_mk {L M : SL} {b : Nat} {h h1 h2 : PH} {fc fm : PH → Option (Int32 × PH)} {r : Int32} (e1 : fc h = some (r, h1)) (t1 : Sn L b h h1) (e2 : fm h1 = some (r, h2)) (t2 : Sn M b h1 h2) (I : Inv b h2) : Both (Inv b) h fc fm :=
  ⟨r, h1, h2, e1, t1.2.2.2.1, fun q hq => by rw [t1.1]; exact hq, e2, t2.2.2.2.1.trans t1.2.2.2.1, I⟩
/-- a figure is told to both -/
theorem FigR.put {N M hi1 hi2 : Nat} {f g f' g' : Nat → Int32} (h : FigR N M hi1 hi2 f g) {k x : Nat} (hx : x ≤ if k < M then hi1 else hi2) (e1 : ∀ j, f' j = if j = k then nI x else f j) (e2 : ∀ j, g' j = if j = k then nI x else g j) : FigR N M hi1 hi2 f' g' := by
  intro j hj
  by_cases hk : j = k
  · subst hk
    exact ⟨x, hx, by rw [e1, if_pos rfl], by rw [e2, if_pos rfl]⟩
  · rw [e1, e2, if_neg hk, if_neg hk]
    exact h j hj
