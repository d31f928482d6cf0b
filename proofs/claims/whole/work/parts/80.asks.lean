/-! ===== the reference asks ===== -/
theorem mo_gt (a : Nat) (x y : Int32) (h : PH) : f_Mo_greater a x y h = some (jmax x y, h) := by
  unfold f_Mo_greater jmax
  by_cases q : x ≤ y
  · rw [if_pos q]
    by_cases q2 : x < y
    · rw [if_pos q2]
    · have e : x = y := by rw [fa_eq]; rw [fa_le] at q; rw [fa_lt] at q2; omega
      rw [if_neg q2, e]
  · have q2 : ¬ x < y := by rw [fa_lt]; rw [fa_le] at q; omega
    rw [if_neg q, if_neg q2]
theorem mo_ls (a : Nat) (x y : Int32) (h : PH) : f_Mo_lesser a x y h = some (jmin x y, h) := by
  unfold f_Mo_lesser jmin
  by_cases q : y ≤ x
  · rw [if_pos q]
    by_cases q2 : y < x
    · rw [if_pos q2]
    · have e : x = y := by rw [fa_eq]; rw [fa_le] at q; rw [fa_lt] at q2; omega
      rw [if_neg q2, e]
  · have q2 : ¬ y < x := by rw [fa_lt]; rw [fa_le] at q; omega
    rw [if_neg q, if_neg q2]
theorem bs4096 (p : Nat → Bool) {n : Nat} (hn : n ≤ 12) : bs n p < 4096 := Nat.lt_of_lt_of_le (bs_lt p n) (by
  have : 2 ^ n ≤ 2 ^ 12 := Nat.pow_le_pow_right (by decide) hn
  omega)
/-- what is told once for all stands yet -/
theorem stat_at {h hh : PH} {b : Nat} (t : Sn DYN b h hh) : (∀ j, j < 12 → gI hh (b + 135) j = gI h (b + 135) j) ∧ (∀ j, j < 12 → gI hh (b + 136) j = gI h (b + 136) j) ∧ (∀ j, j < 6 → gI hh (b + 137) j = gI h (b + 137) j) ∧ (∀ j, j < 6 → gI hh (b + 138) j = gI h (b + 138) j) ∧ gI hh (b + 131) 6 = gI h (b + 131) 6 ∧ gI hh (b + 131) 7 = gI h (b + 131) 7 ∧ ∀ j, j < 12 → gI hh (b + 150) j = gI h (b + 150) j :=
  ⟨fun j hj => t.I (disj_ok (M := U_stat) (by decide) (inL_in (lo := 0) (hi := 12) (by decide) (by omega) hj)), fun j hj => t.I (disj_ok (M := U_stat) (by decide) (inL_in (lo := 0) (hi := 12) (by decide) (by omega) hj)), fun j hj => t.I (disj_ok (M := U_stat) (by decide) (inL_in (lo := 0) (hi := 6) (by decide) (by omega) hj)), fun j hj => t.I (disj_ok (M := U_stat) (by decide) (inL_in (lo := 0) (hi := 6) (by decide) (by omega) hj)), t.I (by decide), t.I (by decide), fun j hj => t.I (disj_ok (M := U_kin) (by decide) (inL_in (lo := 0) (hi := 12) (by decide) (by omega) hj))⟩
theorem mo_asks {h hh : PH} {b t : Nat} {o : Option Nat} {g : Nat → Int32} (I : Inv b h) (tt : Sn DYN b h hh) (rw' : Rw hh b g) (ht : t < ntOf h b) (ho : ∀ o', o = some o' → o' < noOf h b) : ∃ h', Sn [(153, 0, 10)] b hh h' ∧ (∀ a, a < 10 → gI h' (b + 153) a = askv h b g t o a) ∧ f_Mo_asks (b + 131) (nI t) (oc o) hh = some h' := by
  have kn := fun q => kn_eq (t := t) I q
  obtain ⟨s, cd, c_stat, c_realm, c_book, c_law, c_kin, c_shi, c_roa, c_ord, c_han, c_wei, c_bag, c_pri, c_cnt, c_led, c_yea, c_log, c_rdr, c_msc, c_img⟩ := I
  have K131 : gK h (b + 131) = (0, 9) := s.K 131 (by decide) rfl
  have K132 : gK h (b + 132) = (1, 79) := s.K 132 (by decide) rfl
  have K135 : gK h (b + 135) = (1, 12) := s.K 135 (by decide) rfl
  have K136 : gK h (b + 136) = (1, 12) := s.K 136 (by decide) rfl
  have K137 : gK h (b + 137) = (1, 6) := s.K 137 (by decide) rfl
  have K138 : gK h (b + 138) = (1, 6) := s.K 138 (by decide) rfl
  have K150 : gK h (b + 150) = (1, 24) := s.K 150 (by decide) rfl
  have K153 : gK h (b + 153) = (1, 10) := s.K 153 (by decide) rfl
  have R131_1 : gR h (b + 131) 1 = some (b + 132) := s.R 131 1 rfl
  have R131_8 : gR h (b + 131) 8 = some (b + 135) := s.R 131 8 rfl
  have R131_9 : gR h (b + 131) 9 = some (b + 136) := s.R 131 9 rfl
  have R131_10 : gR h (b + 131) 10 = some (b + 137) := s.R 131 10 rfl
  have R131_11 : gR h (b + 131) 11 = some (b + 138) := s.R 131 11 rfl
  have R131_37 : gR h (b + 131) 37 = some (b + 150) := s.R 131 37 rfl
  have R131_42 : gR h (b + 131) 42 = some (b + 153) := s.R 131 42 rfl
  obtain ⟨⟨hnt, hno⟩, _⟩ := c_realm
  obtain ⟨s1, s2, s3, s4, s5, s6, s7⟩ := stat_at tt
  have hN6 : gI h (b + 131) 6 = nI (ntOf h b) := c_stat.1
  have k131 : gK hh (b + 131) = (0, 9) := by rw [tt.1]; exact K131
  have k132 : gK hh (b + 132) = (1, 79) := by rw [tt.1]; exact K132
  have k135 : gK hh (b + 135) = (1, 12) := by rw [tt.1]; exact K135
  have k136 : gK hh (b + 136) = (1, 12) := by rw [tt.1]; exact K136
  have k137 : gK hh (b + 137) = (1, 6) := by rw [tt.1]; exact K137
  have k138 : gK hh (b + 138) = (1, 6) := by rw [tt.1]; exact K138
  have k150 : gK hh (b + 150) = (1, 24) := by rw [tt.1]; exact K150
  have k153 : gK hh (b + 153) = (1, 10) := by rw [tt.1]; exact K153
  have p1 : gR hh (b + 131) 1 = some (b + 132) := by rw [tt.2.1]; exact R131_1
  have p8 : gR hh (b + 131) 8 = some (b + 135) := by rw [tt.2.1]; exact R131_8
  have p9 : gR hh (b + 131) 9 = some (b + 136) := by rw [tt.2.1]; exact R131_9
  have p10 : gR hh (b + 131) 10 = some (b + 137) := by rw [tt.2.1]; exact R131_10
  have p11 : gR hh (b + 131) 11 = some (b + 138) := by rw [tt.2.1]; exact R131_11
  have p37 : gR hh (b + 131) 37 = some (b + 150) := by rw [tt.2.1]; exact R131_37
  have p42 : gR hh (b + 131) 42 = some (b + 153) := by rw [tt.2.1]; exact R131_42
  have t12 : t < 12 := by omega
  have t24 : t < 24 := by omega
  have kt := kn t12
  have a7 : 7 + t < 79 := by omega
  have a19 : 19 + t < 79 := by omega
  have a31 : 31 + t < 79 := by omega
  obtain ⟨A, hAd⟩ : ∃ A, A = askv h b g t o := ⟨_, rfl⟩
  have v0 : gI hh (b + 135) t = A 0 := by rw [s1 t t12, hAd]; rfl
  have v1 : gI hh (b + 136) t = A 1 := by rw [s2 t t12, hAd]; rfl
  have v2 : gI hh (b + 132) (19 + t) = A 2 := by rw [rw' _ a19, hAd]; rfl
  have v3 : gI hh (b + 132) (7 + t) = A 3 := by rw [rw' _ a7, hAd]; rfl
  have v4 : rmI (gI hh (b + 132) 0) 24 = some (A 4) := by unfold rmI; rw [if_neg (by decide), rw' 0 (by omega), hAd]; rfl
  have v5 : jmax 0 (gI hh (b + 132) (31 + t) - 1) = A 5 := by rw [rw' _ a31, hAd]; rfl
  have v9 : gI hh (b + 150) t = nI (knO h b t) := by rw [s7 t t12]; exact kt.2
  have a9 : nI (pcd (knO h b t &&& bs (ntOf h b) (fun t => g (43 + t) == 1))) = A 9 := by rw [hAd]; rfl
  have hlt : knO h b t &&& bs (ntOf h b) (fun t => g (43 + t) == 1) < 4096 := Nat.lt_of_le_of_lt Nat.and_le_left kt.1
  have on : ∀ H, f_Mo_onesOf (b + 131) (nI (knO h b t &&& bs (ntOf h b) (fun t => g (43 + t) == 1))) H = some (A 9, H) := fun H => by rw [oned hlt, a9]
  have ou : ∀ H, Sn [(153, 0, 10)] b hh H → f_Mo_outSet (b + 131) H = some (nI (bs (ntOf h b) (fun t => g (43 + t) == 1)), H) := fun H tH => by
    rw [mo_outSet (a := b + 131) (c := b + 132) (n := ntOf h b) (by rw [tH.1]; exact k131) (by rw [tH.2.1]; exact p1) (by rw [tH.1]; exact k132) (by rw [tH.I (by decide), s5]; exact hN6) hnt]
    rw [bs_cg (fun k hk => by rw [tH.2.2.2.2 132 (43 + k) (by simp [inL]), rw' _ (by omega)])]
  have G : ∀ (hz : PH) k v o' j, o' ≠ 153 → gI (sI hz (b + 153) k v) (b + o') j = gI hz (b + o') j := fun hz k v o' j ho' => gI_n1 (by omega)
  have r0 : rdA hh (b + 132) 0 = some (gI hh (b + 132) 0) := rd_at (k := 0) k132 (by decide) (by decide) rfl
  have r0' : ∀ H, gK H (b + 132) = (1, 79) → rdA H (b + 132) 0 = some (gI H (b + 132) 0) := fun H kH => rd_at (k := 0) kH (by decide) (by decide) rfl
  refine ⟨(sI (sI (sI (sI (sI (sI (sI (sI (sI (sI hh (b + 153) 0 (A 0)) (b + 153) 1 (A 1)) (b + 153) 2 (A 2)) (b + 153) 3 (A 3)) (b + 153) 4 (A 4)) (b + 153) 5 (A 5)) (b + 153) 6 (A 6)) (b + 153) 7 (A 7)) (b + 153) 8 (A 8)) (b + 153) 9 (A 9)), ?_, fun a ha => ?_, ?_⟩
  · exact (((((((((Sn.rf.put 153 0 _ (by decide)).put 153 1 _ (by decide)).put 153 2 _ (by decide)).put 153 3 _ (by decide)).put 153 4 _ (by decide)).put 153 5 _ (by decide)).put 153 6 _ (by decide)).put 153 7 _ (by decide)).put 153 8 _ (by decide)).put 153 9 _ (by decide)
  · rw [← hAd]
    have : a = 0 ∨ a = 1 ∨ a = 2 ∨ a = 3 ∨ a = 4 ∨ a = 5 ∨ a = 6 ∨ a = 7 ∨ a = 8 ∨ a = 9 := by omega
    rcases this with rfl | rfl | rfl | rfl | rfl | rfl | rfl | rfl | rfl | rfl <;> simp (disch := omega) only [gI_q, gI_n1, gI_n2]
  · have z4 := r0' (sI (sI (sI (sI hh (b + 153) 0 (A 0)) (b + 153) 1 (A 1)) (b + 153) 2 (A 2)) (b + 153) 3 (A 3)) k132
    cases o with
    | none =>
      have a6 : A 6 = 0 := by rw [hAd]; rfl
      have a7' : A 7 = 0 := by rw [hAd]; rfl
      have a8 : A 8 = 0 := by rw [hAd]; rfl
      have eo : oc none = -1 := rfl
      have o9 := ou (sI (sI (sI (sI (sI (sI (sI (sI (sI hh (b + 153) 0 (A 0)) (b + 153) 1 (A 1)) (b + 153) 2 (A 2)) (b + 153) 3 (A 3)) (b + 153) 4 (A 4)) (b + 153) 5 (A 5)) (b + 153) 6 0) (b + 153) 7 0) (b + 153) 8 0) ((((((((((Sn.rf.put 153 0 _ (by decide)).put 153 1 _ (by decide)).put 153 2 _ (by decide)).put 153 3 _ (by decide)).put 153 4 _ (by decide)).put 153 5 _ (by decide)).put 153 6 _ (by decide)).put 153 7 _ (by decide)).put 153 8 _ (by decide)))
      rw [a6, a7', a8, eo]
      have y0 : wrA hh (b + 153) 0 (A 0) = some (sI hh (b + 153) 0 (A 0)) := wr_at (k := 0) (n := 10) k153 (by decide) (by decide)
      have y1 : wrA (sI hh (b + 153) 0 (A 0)) (b + 153) 1 (A 1) = some (sI (sI hh (b + 153) 0 (A 0)) (b + 153) 1 (A 1)) := wr_at (k := 1) (n := 10) k153 (by decide) (by decide)
      have y2 : wrA (sI (sI hh (b + 153) 0 (A 0)) (b + 153) 1 (A 1)) (b + 153) 2 (A 2) = some (sI (sI (sI hh (b + 153) 0 (A 0)) (b + 153) 1 (A 1)) (b + 153) 2 (A 2)) := wr_at (k := 2) (n := 10) k153 (by decide) (by decide)
      have y3 : wrA (sI (sI (sI hh (b + 153) 0 (A 0)) (b + 153) 1 (A 1)) (b + 153) 2 (A 2)) (b + 153) 3 (A 3) = some (sI (sI (sI (sI hh (b + 153) 0 (A 0)) (b + 153) 1 (A 1)) (b + 153) 2 (A 2)) (b + 153) 3 (A 3)) := wr_at (k := 3) (n := 10) k153 (by decide) (by decide)
      have y4 : wrA (sI (sI (sI (sI hh (b + 153) 0 (A 0)) (b + 153) 1 (A 1)) (b + 153) 2 (A 2)) (b + 153) 3 (A 3)) (b + 153) 4 (A 4) = some (sI (sI (sI (sI (sI hh (b + 153) 0 (A 0)) (b + 153) 1 (A 1)) (b + 153) 2 (A 2)) (b + 153) 3 (A 3)) (b + 153) 4 (A 4)) := wr_at (k := 4) (n := 10) k153 (by decide) (by decide)
      have y5 : wrA (sI (sI (sI (sI (sI hh (b + 153) 0 (A 0)) (b + 153) 1 (A 1)) (b + 153) 2 (A 2)) (b + 153) 3 (A 3)) (b + 153) 4 (A 4)) (b + 153) 5 (A 5) = some (sI (sI (sI (sI (sI (sI hh (b + 153) 0 (A 0)) (b + 153) 1 (A 1)) (b + 153) 2 (A 2)) (b + 153) 3 (A 3)) (b + 153) 4 (A 4)) (b + 153) 5 (A 5)) := wr_at (k := 5) (n := 10) k153 (by decide) (by decide)
      have y6 : wrA (sI (sI (sI (sI (sI (sI hh (b + 153) 0 (A 0)) (b + 153) 1 (A 1)) (b + 153) 2 (A 2)) (b + 153) 3 (A 3)) (b + 153) 4 (A 4)) (b + 153) 5 (A 5)) (b + 153) 6 0 = some (sI (sI (sI (sI (sI (sI (sI hh (b + 153) 0 (A 0)) (b + 153) 1 (A 1)) (b + 153) 2 (A 2)) (b + 153) 3 (A 3)) (b + 153) 4 (A 4)) (b + 153) 5 (A 5)) (b + 153) 6 0) := wr_at (k := 6) (n := 10) k153 (by decide) (by decide)
      have y7 : wrA (sI (sI (sI (sI (sI (sI (sI hh (b + 153) 0 (A 0)) (b + 153) 1 (A 1)) (b + 153) 2 (A 2)) (b + 153) 3 (A 3)) (b + 153) 4 (A 4)) (b + 153) 5 (A 5)) (b + 153) 6 0) (b + 153) 7 0 = some (sI (sI (sI (sI (sI (sI (sI (sI hh (b + 153) 0 (A 0)) (b + 153) 1 (A 1)) (b + 153) 2 (A 2)) (b + 153) 3 (A 3)) (b + 153) 4 (A 4)) (b + 153) 5 (A 5)) (b + 153) 6 0) (b + 153) 7 0) := wr_at (k := 7) (n := 10) k153 (by decide) (by decide)
      have y8 : wrA (sI (sI (sI (sI (sI (sI (sI (sI hh (b + 153) 0 (A 0)) (b + 153) 1 (A 1)) (b + 153) 2 (A 2)) (b + 153) 3 (A 3)) (b + 153) 4 (A 4)) (b + 153) 5 (A 5)) (b + 153) 6 0) (b + 153) 7 0) (b + 153) 8 0 = some (sI (sI (sI (sI (sI (sI (sI (sI (sI hh (b + 153) 0 (A 0)) (b + 153) 1 (A 1)) (b + 153) 2 (A 2)) (b + 153) 3 (A 3)) (b + 153) 4 (A 4)) (b + 153) 5 (A 5)) (b + 153) 6 0) (b + 153) 7 0) (b + 153) 8 0) := wr_at (k := 8) (n := 10) k153 (by decide) (by decide)
      have y9 : wrA (sI (sI (sI (sI (sI (sI (sI (sI (sI hh (b + 153) 0 (A 0)) (b + 153) 1 (A 1)) (b + 153) 2 (A 2)) (b + 153) 3 (A 3)) (b + 153) 4 (A 4)) (b + 153) 5 (A 5)) (b + 153) 6 0) (b + 153) 7 0) (b + 153) 8 0) (b + 153) 9 (A 9) = some (sI (sI (sI (sI (sI (sI (sI (sI (sI (sI hh (b + 153) 0 (A 0)) (b + 153) 1 (A 1)) (b + 153) 2 (A 2)) (b + 153) 3 (A 3)) (b + 153) 4 (A 4)) (b + 153) 5 (A 5)) (b + 153) 6 0) (b + 153) 7 0) (b + 153) 8 0) (b + 153) 9 (A 9)) := wr_at (k := 9) (n := 10) k153 (by decide) (by decide)
      simp (disch := omega) only [f_Mo_asks, f_Mo_asks_112, f_Mo_asks_134, f_Mo_asks_159, ↓ob_eq, ob_so, ldI, ldR, isO, rdA_n, gK_sI, gR_sI, if_true, reduceIte, and_self, true_and, and_true, z4, y0, y1, y2, y3, y4, y5, y6, y7, y8, y9, k131, k132, k135, k136, k150, p1, p8, p9, p37, p42, t12, t24, a7, a19, a31, L_addn, mo_gt, v0, v1, v2, v3, v4, v5, v9, o9, fa_and, on, G]
    | some o =>
      have ho2 := ho o rfl
      have o6 : o < 6 := by omega
      have a73 : 73 + o < 79 := by omega
      have v6 : gI hh (b + 137) o = A 6 := by rw [s3 o o6, hAd]; rfl
      have v7 : gI hh (b + 138) o = A 7 := by rw [s4 o o6, hAd]; rfl
      have v8 : gI hh (b + 132) (73 + o) = A 8 := by rw [rw' _ a73, hAd]; rfl
      have eo : oc (some o) = nI o := rfl
      have em : ¬ nI o = -1 := nI_m1 (by omega)
      have o9 := ou (sI (sI (sI (sI (sI (sI (sI (sI (sI hh (b + 153) 0 (A 0)) (b + 153) 1 (A 1)) (b + 153) 2 (A 2)) (b + 153) 3 (A 3)) (b + 153) 4 (A 4)) (b + 153) 5 (A 5)) (b + 153) 6 (A 6)) (b + 153) 7 (A 7)) (b + 153) 8 (A 8)) ((((((((((Sn.rf.put 153 0 _ (by decide)).put 153 1 _ (by decide)).put 153 2 _ (by decide)).put 153 3 _ (by decide)).put 153 4 _ (by decide)).put 153 5 _ (by decide)).put 153 6 _ (by decide)).put 153 7 _ (by decide)).put 153 8 _ (by decide)))
      rw [eo]
      have y0 : wrA hh (b + 153) 0 (A 0) = some (sI hh (b + 153) 0 (A 0)) := wr_at (k := 0) (n := 10) k153 (by decide) (by decide)
      have y1 : wrA (sI hh (b + 153) 0 (A 0)) (b + 153) 1 (A 1) = some (sI (sI hh (b + 153) 0 (A 0)) (b + 153) 1 (A 1)) := wr_at (k := 1) (n := 10) k153 (by decide) (by decide)
      have y2 : wrA (sI (sI hh (b + 153) 0 (A 0)) (b + 153) 1 (A 1)) (b + 153) 2 (A 2) = some (sI (sI (sI hh (b + 153) 0 (A 0)) (b + 153) 1 (A 1)) (b + 153) 2 (A 2)) := wr_at (k := 2) (n := 10) k153 (by decide) (by decide)
      have y3 : wrA (sI (sI (sI hh (b + 153) 0 (A 0)) (b + 153) 1 (A 1)) (b + 153) 2 (A 2)) (b + 153) 3 (A 3) = some (sI (sI (sI (sI hh (b + 153) 0 (A 0)) (b + 153) 1 (A 1)) (b + 153) 2 (A 2)) (b + 153) 3 (A 3)) := wr_at (k := 3) (n := 10) k153 (by decide) (by decide)
      have y4 : wrA (sI (sI (sI (sI hh (b + 153) 0 (A 0)) (b + 153) 1 (A 1)) (b + 153) 2 (A 2)) (b + 153) 3 (A 3)) (b + 153) 4 (A 4) = some (sI (sI (sI (sI (sI hh (b + 153) 0 (A 0)) (b + 153) 1 (A 1)) (b + 153) 2 (A 2)) (b + 153) 3 (A 3)) (b + 153) 4 (A 4)) := wr_at (k := 4) (n := 10) k153 (by decide) (by decide)
      have y5 : wrA (sI (sI (sI (sI (sI hh (b + 153) 0 (A 0)) (b + 153) 1 (A 1)) (b + 153) 2 (A 2)) (b + 153) 3 (A 3)) (b + 153) 4 (A 4)) (b + 153) 5 (A 5) = some (sI (sI (sI (sI (sI (sI hh (b + 153) 0 (A 0)) (b + 153) 1 (A 1)) (b + 153) 2 (A 2)) (b + 153) 3 (A 3)) (b + 153) 4 (A 4)) (b + 153) 5 (A 5)) := wr_at (k := 5) (n := 10) k153 (by decide) (by decide)
      have y6 : wrA (sI (sI (sI (sI (sI (sI hh (b + 153) 0 (A 0)) (b + 153) 1 (A 1)) (b + 153) 2 (A 2)) (b + 153) 3 (A 3)) (b + 153) 4 (A 4)) (b + 153) 5 (A 5)) (b + 153) 6 (A 6) = some (sI (sI (sI (sI (sI (sI (sI hh (b + 153) 0 (A 0)) (b + 153) 1 (A 1)) (b + 153) 2 (A 2)) (b + 153) 3 (A 3)) (b + 153) 4 (A 4)) (b + 153) 5 (A 5)) (b + 153) 6 (A 6)) := wr_at (k := 6) (n := 10) k153 (by decide) (by decide)
      have y7 : wrA (sI (sI (sI (sI (sI (sI (sI hh (b + 153) 0 (A 0)) (b + 153) 1 (A 1)) (b + 153) 2 (A 2)) (b + 153) 3 (A 3)) (b + 153) 4 (A 4)) (b + 153) 5 (A 5)) (b + 153) 6 (A 6)) (b + 153) 7 (A 7) = some (sI (sI (sI (sI (sI (sI (sI (sI hh (b + 153) 0 (A 0)) (b + 153) 1 (A 1)) (b + 153) 2 (A 2)) (b + 153) 3 (A 3)) (b + 153) 4 (A 4)) (b + 153) 5 (A 5)) (b + 153) 6 (A 6)) (b + 153) 7 (A 7)) := wr_at (k := 7) (n := 10) k153 (by decide) (by decide)
      have y8 : wrA (sI (sI (sI (sI (sI (sI (sI (sI hh (b + 153) 0 (A 0)) (b + 153) 1 (A 1)) (b + 153) 2 (A 2)) (b + 153) 3 (A 3)) (b + 153) 4 (A 4)) (b + 153) 5 (A 5)) (b + 153) 6 (A 6)) (b + 153) 7 (A 7)) (b + 153) 8 (A 8) = some (sI (sI (sI (sI (sI (sI (sI (sI (sI hh (b + 153) 0 (A 0)) (b + 153) 1 (A 1)) (b + 153) 2 (A 2)) (b + 153) 3 (A 3)) (b + 153) 4 (A 4)) (b + 153) 5 (A 5)) (b + 153) 6 (A 6)) (b + 153) 7 (A 7)) (b + 153) 8 (A 8)) := wr_at (k := 8) (n := 10) k153 (by decide) (by decide)
      have y9 : wrA (sI (sI (sI (sI (sI (sI (sI (sI (sI hh (b + 153) 0 (A 0)) (b + 153) 1 (A 1)) (b + 153) 2 (A 2)) (b + 153) 3 (A 3)) (b + 153) 4 (A 4)) (b + 153) 5 (A 5)) (b + 153) 6 (A 6)) (b + 153) 7 (A 7)) (b + 153) 8 (A 8)) (b + 153) 9 (A 9) = some (sI (sI (sI (sI (sI (sI (sI (sI (sI (sI hh (b + 153) 0 (A 0)) (b + 153) 1 (A 1)) (b + 153) 2 (A 2)) (b + 153) 3 (A 3)) (b + 153) 4 (A 4)) (b + 153) 5 (A 5)) (b + 153) 6 (A 6)) (b + 153) 7 (A 7)) (b + 153) 8 (A 8)) (b + 153) 9 (A 9)) := wr_at (k := 9) (n := 10) k153 (by decide) (by decide)
      simp (disch := omega) only [f_Mo_asks, f_Mo_asks_112, f_Mo_asks_134, f_Mo_asks_159, ↓ob_eq, ob_so, ldI, ldR, isO, rdA_n, gK_sI, gR_sI, if_true, reduceIte, and_self, true_and, and_true, z4, y0, y1, y2, y3, y4, y5, y6, y7, y8, y9, k131, k132, k135, k136, k137, k138, k150, p1, p8, p9, p10, p11, p37, p42, t12, t24, o6, a7, a19, a31, a73, L_addn, mo_gt, v0, v1, v2, v3, v4, v5, v6, v7, v8, v9, o9, fa_and, on, G, em, if_false]
/-- what the class tells of one -/
def tlv (h : PH) (b : Nat) (g : Nat → Int32) (w t : Nat) (o : Option Nat) : Int32 := tel h b (askv h b g t o) w
theorem land_tells {h hh : PH} {b r w t : Nat} {o : Option Nat} {g : Nat → Int32} (I : Inv b h) (tt : Sn DYN b h hh) (hr : r = 2 ∨ r = 114) (rl : Rl h hh b r g) (ht : t < ntOf h b) (ho : ∀ o', o = some o' → o' < noOf h b) (hw : w ≤ 2) : ∃ h', Sn [(17, 0, 10), (18, 0, 32)] b hh h' ∧ f_Land_tells (b + 1) (b + r) (nI w) (nI t) (oc o) hh = some (tlv h b g w t o, h') := by
  have I0 := I
  obtain ⟨s, cd, c_stat, c_realm, c_book, c_law, c_kin, c_shi, c_roa, c_ord, c_han, c_wei, c_bag, c_pri, c_cnt, c_led, c_yea, c_log, c_rdr, c_msc, c_img⟩ := I
  have K1 : gK h (b + 1) = (0, 1) := s.K 1 (by decide) rfl
  have K13 : gK h (b + 13) = (0, 2) := s.K 13 (by decide) rfl
  have R1_2 : gR h (b + 1) 2 = some (b + 13) := s.R 1 2 rfl
  obtain ⟨⟨hnt, hno⟩, _⟩ := c_realm
  obtain ⟨h1, t1, A1, e1⟩ := cl_ask I0 tt hr rl ht ho
  have td1 : Sn DYN b h h1 := tt.tr (t1.up (by decide))
  obtain ⟨h2, t2, e2⟩ := cl_tells (w := w) I0 td1 A1 hw
  refine ⟨h2, (t1.up (by decide)).tr (t2.up (by decide)), ?_⟩
  have kn := kn_eq I0 (show t < 12 by omega)
  have kk := cl_kin I0 tt (show t < 12 by omega)
  have k1 : gK hh (b + 1) = (0, 1) ∧ gK hh (b + 13) = (0, 2) ∧ gK h1 (b + 1) = (0, 1) ∧ gK h1 (b + 13) = (0, 2) := ⟨by rw [tt.1]; exact K1, by rw [tt.1]; exact K13, by rw [td1.1]; exact K1, by rw [td1.1]; exact K13⟩
  have kr : gK hh (b + r) = (0, 5) := (RS_r s tt hr).1.1
  have r1 : gR hh (b + 1) 2 = some (b + 13) ∧ gR h1 (b + 1) 2 = some (b + 13) := ⟨by rw [tt.2.1]; exact R1_2, by rw [td1.2.1]; exact R1_2⟩
  have F7 : gI hh (b + r) 7 = nI (bs (ntOf h b) (fun t => g (43 + t) == 1)) := rl.2.2.2.2.2.2.2.2.2.1
  have bd := bitd (n := knO h b t &&& bs (ntOf h b) (fun t => g (43 + t) == 1)) (Nat.lt_of_le_of_lt Nat.and_le_left kn.1) hh
  unfold tlv
  simp (disch := omega) only [f_Land_tells, ↓ob_eq, ob_so, ldI, ldR, ldO, stI, stZ, stR, isO, wrA_n, rdA_n, wrA_l, rdA_l, gK_sI, gR_sI, gX_sI, gN_sI, gK_cp, gR_cp, gX_cp, gN_cp, rtZ_0, rtZ_1, if_true, reduceIte, and_self, true_and, and_true, k1, kr, r1, kk, F7, fa_and, bd, e1, e2]
/-- a row's numbers are as they may be -/
def RowB (hb nt no : Nat) (g : Nat → Int32) : Prop := (∃ x, x ≤ hb ∧ g 0 = nI x) ∧ (∃ x, x ≤ 150 ∧ g 2 = nI x) ∧ (∃ x, x < 16 ∧ g 6 = nI x) ∧ (∀ t, t < nt → (∃ x, x ≤ 9999 ∧ g (7 + t) = nI x) ∧ (∃ x, x ≤ 99 ∧ g (19 + t) = nI x) ∧ (∃ x, x ≤ 4 ∧ g (31 + t) = nI x) ∧ (g (43 + t) = 0 ∨ g (43 + t) = 1) ∧ (g (55 + t) = 0 ∨ g (55 + t) = 1)) ∧ ∀ o, o < no → (∃ x, x < 4 ∧ g (67 + o) = nI x) ∧ ∃ x, x ≤ 9 ∧ g (73 + o) = nI x
/-- what comes of a default -/
theorem tld_bd {h : PH} {b w t : Nat} {o : Option Nat} {g : Nat → Int32} (I : Inv b h) (ht : t < ntOf h b) (ho : ∀ o', o = some o' → o' < noOf h b) (hw : w ≤ 2) : ∃ v, v ≤ (if w = 2 then 1000 else 99) ∧ tlD (askv h b g t o) w = nI v := by
  obtain ⟨s, cd, c_stat, c_realm, c_book, c_law, c_kin, c_shi, c_roa, c_ord, c_han, c_wei, c_bag, c_pri, c_cnt, c_led, c_yea, c_log, c_rdr, c_msc, c_img⟩ := I
  obtain ⟨_, _, _, _, S1, S2⟩ := c_stat
  obtain ⟨⟨c, c1, c2⟩, d, d1, d2⟩ := S1 t ht
  unfold tlD
  have : w = 0 ∨ w = 1 ∨ w = 2 := by omega
  rcases this with rfl | rfl | rfl
  · refine ⟨9 - d, by simp; omega, ?_⟩
    have e : askv h b g t o 1 = nI d := d2
    rw [if_pos rfl, e]
    exact pk_sub (a := 9) (b := d) (by omega)
  · refine ⟨c + 1, by simp; omega, ?_⟩
    have e : askv h b g t o 0 = nI c := c2
    rw [if_neg (by decide), if_pos rfl, e, nI_addL]
  · cases o with
    | none =>
      refine ⟨500, by simp, ?_⟩
      have e : askv h b g t none 6 = 0 := rfl
      rw [if_neg (by decide), if_neg (by decide), e]
      rfl
    | some o =>
      obtain ⟨⟨n, n1, n2⟩, _⟩ := S2 o (ho o rfl)
      refine ⟨500 + 50 * n, by simp; omega, ?_⟩
      have e : askv h b g t (some o) 6 = nI n := n2
      rw [if_neg (by decide), if_neg (by decide), e, L_muln, L_addn]
theorem tlv_bd {h : PH} {b w t : Nat} {o : Option Nat} {g : Nat → Int32} (I : Inv b h) (ht : t < ntOf h b) (ho : ∀ o', o = some o' → o' < noOf h b) (hw : w ≤ 2) : ∃ v, v ≤ (if w = 2 then 1000 else 99) ∧ tlv h b g w t o = nI v := by
  unfold tlv tel
  refine fox_via (out' := fun _ _ => ()) (fin' := fun _ => ()) (fun (r : Int32) (_ : Unit) => ∃ v, v ≤ (if w = 2 then 1000 else 99) ∧ r = nI v) _ 0 () (fun l _ _ _ => ?_) (fun _ => tld_bd I ht ho hw)
  unfold tlV
  by_cases q : w = 2
  · rw [if_pos q, if_pos q]
    exact hld_bd _ 1000 (by omega)
  · rw [if_neg q, if_neg q]
    exact hld_bd _ 99 (by omega)
theorem mo_wt {h hh : PH} {b t : Nat} {g : Nat → Int32} (I : Inv b h) (tt : Sn DYN b h hh) (rw' : Rw hh b g) (ht : t < ntOf h b) : (∃ h', Sn [(153, 0, 10), (154, 0, 420)] b hh h' ∧ f_Mo_weepOf (b + 131) (nI t) hh = some (tlv h b g 0 t none, h')) ∧ ∀ o, o < noOf h b → (∃ h', Sn [(153, 0, 10), (154, 0, 420)] b hh h' ∧ f_Mo_rateOf (b + 131) (nI t) (nI o) hh = some (tlv h b g 1 t (some o), h')) ∧ ∃ h', Sn [(153, 0, 10), (154, 0, 420)] b hh h' ∧ f_Mo_findOf (b + 131) (nI t) (nI o) hh = some (tlv h b g 2 t (some o), h') := by
  have I0 := I
  obtain ⟨s, cd, c_stat, c_realm, c_book, c_law, c_kin, c_shi, c_roa, c_ord, c_han, c_wei, c_bag, c_pri, c_cnt, c_led, c_yea, c_log, c_rdr, c_msc, c_img⟩ := I
  have K131 : gK h (b + 131) = (0, 9) := s.K 131 (by decide) rfl
  have K135 : gK h (b + 135) = (1, 12) := s.K 135 (by decide) rfl
  have K136 : gK h (b + 136) = (1, 12) := s.K 136 (by decide) rfl
  have K137 : gK h (b + 137) = (1, 6) := s.K 137 (by decide) rfl
  have R131_8 : gR h (b + 131) 8 = some (b + 135) := s.R 131 8 rfl
  have R131_9 : gR h (b + 131) 9 = some (b + 136) := s.R 131 9 rfl
  have R131_10 : gR h (b + 131) 10 = some (b + 137) := s.R 131 10 rfl
  obtain ⟨⟨hnt, hno⟩, _⟩ := c_realm
  have t12 : t < 12 := by omega
  refine ⟨?_, fun o ho => ⟨?_, ?_⟩⟩
  · have hon : ∀ o', (none : Option Nat) = some o' → o' < noOf h b := fun o' z => by cases z
    obtain ⟨h1, t1, A1, e1⟩ := mo_asks I0 tt rw' ht hon
    have td1 : Sn DYN b h h1 := tt.tr (t1.up (by decide))
    obtain ⟨v, v1, v2⟩ := tld_bd (g := g) (w := 0) I0 ht hon (by omega)
    obtain ⟨s1, s2, s3, s4, s5, s6, s7⟩ := stat_at td1
    have A1e : askv h b g t none 1 = gI h (b + 136) t := rfl
    have dd : (9 : Int32) - gI h (b + 136) t = nI v := by rw [← v2]; rfl
    obtain ⟨h2, t2, e2⟩ := mo_tells (w := 0) (m := 99) (dv := nI v) I0 td1 A1 (by omega) rfl (by rw [hld_id (by simpa using v1) (by omega)]; exact v2.symm)
    refine ⟨h2, (t1.up (by decide)).tr (t2.up (by decide)), ?_⟩
    have k1 : gK hh (b + 131) = (0, 9) ∧ gK h1 (b + 131) = (0, 9) ∧ gK h1 (b + 136) = (1, 12) := ⟨by rw [tt.1]; exact K131, by rw [td1.1]; exact K131, by rw [td1.1]; exact K136⟩
    have r1 : gR h1 (b + 131) 9 = some (b + 136) := by rw [td1.2.1]; exact R131_9
    have eo : oc none = -1 := rfl
    rw [eo] at e1
    have e2 : f_Mo_lawTells (b + 131) 0 (nI v) 99 h1 = some (tel h b (askv h b g t none) 0, h2) := e2
    unfold tlv
    simp (disch := omega) only [f_Mo_weepOf, ↓ob_eq, ob_so, ldI, ldR, ldO, stI, stZ, stR, isO, wrA_n, rdA_n, wrA_l, rdA_l, gK_sI, gR_sI, gX_sI, gN_sI, gK_cp, gR_cp, gX_cp, gN_cp, rtZ_0, rtZ_1, if_true, reduceIte, and_self, true_and, and_true, k1, r1, e1, t12, s2 t t12, dd, e2]
  · have hos : ∀ o', some o = some o' → o' < noOf h b := fun o' z => by cases z; exact ho
    obtain ⟨h1, t1, A1, e1⟩ := mo_asks I0 tt rw' ht hos
    have td1 : Sn DYN b h h1 := tt.tr (t1.up (by decide))
    obtain ⟨v, v1, v2⟩ := tld_bd (g := g) (w := 1) I0 ht hos (by omega)
    obtain ⟨s1, s2, s3, s4, s5, s6, s7⟩ := stat_at td1
    have dd : gI h (b + 135) t + 1 = nI v := by rw [← v2]; rfl
    obtain ⟨h2, t2, e2⟩ := mo_tells (w := 1) (m := 99) (dv := nI v) I0 td1 A1 (by omega) rfl (by rw [hld_id (by simpa using v1) (by omega)]; exact v2.symm)
    refine ⟨h2, (t1.up (by decide)).tr (t2.up (by decide)), ?_⟩
    have k1 : gK hh (b + 131) = (0, 9) ∧ gK h1 (b + 131) = (0, 9) ∧ gK h1 (b + 135) = (1, 12) := ⟨by rw [tt.1]; exact K131, by rw [td1.1]; exact K131, by rw [td1.1]; exact K135⟩
    have r1 : gR h1 (b + 131) 8 = some (b + 135) := by rw [td1.2.1]; exact R131_8
    have eo : oc (some o) = nI o := rfl
    rw [eo] at e1
    have e2 : f_Mo_lawTells (b + 131) 1 (nI v) 99 h1 = some (tel h b (askv h b g t (some o)) 1, h2) := e2
    unfold tlv
    simp (disch := omega) only [f_Mo_rateOf, ↓ob_eq, ob_so, ldI, ldR, ldO, stI, stZ, stR, isO, wrA_n, rdA_n, wrA_l, rdA_l, gK_sI, gR_sI, gX_sI, gN_sI, gK_cp, gR_cp, gX_cp, gN_cp, rtZ_0, rtZ_1, if_true, reduceIte, and_self, true_and, and_true, k1, r1, e1, t12, s1 t t12, dd, e2]
  · have hos : ∀ o', some o = some o' → o' < noOf h b := fun o' z => by cases z; exact ho
    obtain ⟨h1, t1, A1, e1⟩ := mo_asks I0 tt rw' ht hos
    have td1 : Sn DYN b h h1 := tt.tr (t1.up (by decide))
    obtain ⟨v, v1, v2⟩ := tld_bd (g := g) (w := 2) I0 ht hos (by omega)
    obtain ⟨s1, s2, s3, s4, s5, s6, s7⟩ := stat_at td1
    have o6 : o < 6 := by omega
    have dd : (500 : Int32) + 50 * gI h (b + 137) o = nI v := by rw [← v2]; rfl
    obtain ⟨h2, t2, e2⟩ := mo_tells (w := 2) (m := 1000) (dv := nI v) I0 td1 A1 (by omega) rfl (by rw [hld_id (by simpa using v1) (by omega)]; exact v2.symm)
    refine ⟨h2, (t1.up (by decide)).tr (t2.up (by decide)), ?_⟩
    have k1 : gK hh (b + 131) = (0, 9) ∧ gK h1 (b + 131) = (0, 9) ∧ gK h1 (b + 137) = (1, 6) := ⟨by rw [tt.1]; exact K131, by rw [td1.1]; exact K131, by rw [td1.1]; exact K137⟩
    have r1 : gR h1 (b + 131) 10 = some (b + 137) := by rw [td1.2.1]; exact R131_10
    have eo : oc (some o) = nI o := rfl
    rw [eo] at e1
    have e2 : f_Mo_lawTells (b + 131) 2 (nI v) 1000 h1 = some (tel h b (askv h b g t (some o)) 2, h2) := e2
    unfold tlv
    simp (disch := omega) only [f_Mo_findOf, ↓ob_eq, ob_so, ldI, ldR, ldO, stI, stZ, stR, isO, wrA_n, rdA_n, wrA_l, rdA_l, gK_sI, gR_sI, gX_sI, gN_sI, gK_cp, gR_cp, gX_cp, gN_cp, rtZ_0, rtZ_1, if_true, reduceIte, and_self, true_and, and_true, k1, r1, e1, o6, s3 o o6, dd, e2]
