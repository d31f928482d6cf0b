/-! ===== image ===== -/
def cLd : Option PH := f_Land_init 0 (nw H00 (0, 1))
def HLc : PH := cLd.getD H00
theorem cLd_n : cLd.map (fun H => gN H) = some 39 := by decide +kernel
theorem HL_e : cLd = some HLc ∧ gN HLc = 39 := getD_map cLd_n
set_option maxRecDepth 100000 in
theorem HL_K : ∀ o : Fin 39, gK HLc o.val = KT (1 + o.val) := by decide +kernel
set_option maxRecDepth 100000 in
theorem HL_R : ∀ o : Fin 39, ∀ k : Fin 80, RT (1 + o.val) k.val = none ∨ gR HLc o.val k.val = (RT (1 + o.val) k.val).map (fun q => q - 1) ∧ (RT (1 + o.val) k.val).all (fun q => decide (1 ≤ q)) = true := by decide +kernel
theorem HL_W : gI HLc 13 0 = 4 ∧ gI HLc 18 0 = 4 ∧ gI HLc 20 0 = 4 ∧ gI HLc 22 0 = 4 ∧ gI HLc 25 0 = 3 ∧ gI HLc 27 0 = 2 ∧ gI HLc 29 0 = 1 ∧ gI HLc 31 0 = 1 ∧ gI HLc 33 0 = 2 ∧ gI HLc 35 0 = 1 := by decide +kernel
theorem RT_05 : RT 0 5 = none := by decide +kernel
/-- a kept land stands there -/
def KeptOK (h : PH) (b : Nat) : Prop := gR h b 5 = some (b + 174) ∧ gN h = b + 213 ∧ XLd h b 173 ∧ W10 (lvF h b 173)
theorem new_land {h : PH} {b : Nat} (s : Shp h b) (hN : gN h = b + 174) (hk : ∀ q, b + 174 ≤ q → gK h q = (9, 0)) : ∃ h11, f_Land_init (gN h) (nw h (0, 1)) = some h11 ∧ stR h11 8 b 5 (some (gN h)) = some (sR h11 b 5 (some (b + 174))) ∧ gX h11 = gX h ∧ (∀ a, a < b + 174 → gK h11 a = gK h a ∧ ∀ k, gR h11 a k = gR h a k ∧ gI h11 a k = gI h a k) ∧ KeptOK (sR h11 b 5 (some (b + 174))) b := by
  have T0 : Tr (b + 174) h h H00 := ⟨hN, rfl, fun o ho => absurd ho (Nat.not_lt_zero o), fun a _ => ⟨rfl, fun _ => ⟨rfl, rfl⟩⟩, fun o k v ho _ => absurd ho (Nat.not_lt_zero o), fun a ha => hk a ha⟩
  have e : f_Land_init 0 (nw H00 (0, 1)) = some HLc := HL_e.1
  obtain ⟨h11, d, t, -⟩ := tr_Land_init (T0.nw' (kd := (0, 1))) (a := 0) (by show 0 < 0 + 1; omega) e
  have d : f_Land_init (b + 174) (nw h (0, 1)) = some h11 := d
  have lo : ∀ a, a < b + 174 → gK h11 a = gK h a ∧ ∀ k, gR h11 a k = gR h a k ∧ gI h11 a k = gI h a k := t.2.2.2.1
  have up : ∀ o, o < 39 → gK h11 (b + 174 + o) = gK HLc o ∧ ∀ k, gR h11 (b + 174 + o) k = (gR HLc o k).map (fun x => b + 174 + x) ∧ gI h11 (b + 174 + o) k = gI HLc o k := fun o ho => t.2.2.1 o (by rw [HL_e.2]; exact ho)
  have kb : gK h11 b = (0, 8) := (lo b (by omega)).1.trans (s.K 0 (by decide) rfl)
  refine ⟨h11, by rw [hN]; exact d, by unfold stR; rw [if_pos kb, hN], t.2.1, lo, ?_, ?_, ⟨fun i h1 h2 => ?_, fun i k q h1 h2 er => ?_⟩, ?_⟩
  · rw [gR_sR, if_pos ⟨rfl, rfl⟩]
  · rw [gN_sR, t.n, HL_e.2]
  · rw [gK_sR, show b + (173 + i) = b + 174 + (i - 1) by omega, (up (i - 1) (by omega)).1]
    have := HL_K ⟨i - 1, by omega⟩
    rw [this]
    show KT (1 + (i - 1)) = KT i
    rw [show 1 + (i - 1) = i by omega]
  · rw [gR_sR, if_neg (by omega), show b + (173 + i) = b + 174 + (i - 1) by omega, ((up (i - 1) (by omega)).2 k).1]
    obtain ⟨-, hk80⟩ := RT_bd er
    have z := HL_R ⟨i - 1, by omega⟩ ⟨k, hk80⟩
    have z : RT (1 + (i - 1)) k = none ∨ gR HLc (i - 1) k = (RT (1 + (i - 1)) k).map (fun q => q - 1) ∧ (RT (1 + (i - 1)) k).all (fun q => decide (1 ≤ q)) = true := z
    rw [show 1 + (i - 1) = i by omega, er] at z
    rcases z with z | ⟨z, z2⟩
    · cases z
    · have z2 : decide (1 ≤ q) = true := z2
      rw [decide_eq_true_eq] at z2
      rw [z]
      show some (b + 174 + (q - 1)) = some (b + (173 + q))
      rw [show b + 174 + (q - 1) = b + (173 + q) by omega]
  · obtain ⟨w1, w2, w3, w4, w5, w6, w7, w8, w9, w10⟩ := HL_W
    have gi : ∀ o, o < 39 → gI h11 (b + 174 + o) 0 = gI HLc o 0 := fun o ho => ((up o ho).2 0).2
    exact ⟨(gi 13 (by omega)).trans w1, (gi 18 (by omega)).trans w2, (gi 20 (by omega)).trans w3, (gi 22 (by omega)).trans w4, (gi 25 (by omega)).trans w5, (gi 27 (by omega)).trans w6, (gi 29 (by omega)).trans w7, (gi 31 (by omega)).trans w8, (gi 33 (by omega)).trans w9, (gi 35 (by omega)).trans w10⟩
set_option maxRecDepth 100000 in
theorem mM_all : ∀ q : Fin 1853, 131 ≤ (mM q.val).1 ∧ (mM q.val).1 < 173 ∧ inL GDD (mM q.val).1 (mM q.val).2 = true := by decide +kernel
theorem LDD_bd : ∀ p ∈ LDD, 2 ≤ p.1 ∧ p.1 < 40 := by decide
theorem LDD_i {i j : Nat} (h : inL LDD i j = true) : 1 ≤ i ∧ i < 40 := by
  unfold inL at h
  rw [List.any_eq_true] at h
  obtain ⟨p, hp, h⟩ := h
  simp only [Bool.and_eq_true, beq_iff_eq] at h
  have := LDD_bd p hp
  omega
theorem GDD_bd : ∀ p ∈ GDD, 131 ≤ p.1 ∧ p.1 < 173 := by decide
theorem GDD_i {i j : Nat} (h : inL GDD i j = true) : 131 ≤ i ∧ i < 173 := by
  unfold inL at h
  rw [List.any_eq_true] at h
  obtain ⟨p, hp, h⟩ := h
  simp only [Bool.and_eq_true, beq_iff_eq] at h
  have := GDD_bd p hp
  omega
theorem GDD_f {o j : Nat} (h : inL GDD o j = true) : ¬ (o = 131 ∧ (j = 0 ∨ j = 3 ∨ j = 70 ∨ j = 71 ∨ j = 72)) := by
  rintro ⟨rfl, z⟩
  rcases z with rfl | rfl | rfl | rfl | rfl <;> exact absurd h (by decide)
def hS (h : PH) (b : Nat) (z : Int32) : PH := sI (sI (sI (sI h (b + 131) 0 0) (b + 131) 70 z) (b + 131) 71 1) (b + 131) 72 0
theorem hS_I {h : PH} {b o j : Nat} {z : Int32} (hn : ¬ (o = 131 ∧ (j = 0 ∨ j = 70 ∨ j = 71 ∨ j = 72))) : gI (hS h b z) (b + o) j = gI h (b + o) j := by
  unfold hS
  rw [gI_sI, if_neg (fun y => hn ⟨by omega, by omega⟩), gI_sI, if_neg (fun y => hn ⟨by omega, by omega⟩), gI_sI, if_neg (fun y => hn ⟨by omega, by omega⟩), gI_sI, if_neg (fun y => hn ⟨by omega, by omega⟩)]
theorem image18 {h : PH} {b : Nat} (K : gK h (b + 131) = (0, 9)) {z : Int32} (hz : z = 0 ∨ z = 1) : f_Mo_image_18 (b + 131) z (sI h (b + 131) 0 0) = f_Mo_image_35 FU (b + 131) z 0 (hS h b z) := by
  have s1 : stZ (sI h (b + 131) 0 0) 9 (b + 131) 70 z = some (sI (sI h (b + 131) 0 0) (b + 131) 70 z) := if_pos ⟨K, hz⟩
  have s2 : stZ (sI (sI h (b + 131) 0 0) (b + 131) 70 z) 9 (b + 131) 71 1 = some (sI (sI (sI h (b + 131) 0 0) (b + 131) 70 z) (b + 131) 71 1) := if_pos ⟨K, Or.inr rfl⟩
  unfold f_Mo_image_18
  rw [s1, bind_some', s2, bind_some', stI_y (h := sI (sI (sI h (b + 131) 0 0) (b + 131) 70 z) (b + 131) 71 1) K, bind_some']
  rfl
def CompsL (h : PH) (b : Nat) : Prop := C_stat h b ∧ C_realm h b ∧ C_book h b ∧ C_law h b ∧ C_kin h b ∧ C_shi h b ∧ C_roa h b ∧ C_ord h b ∧ C_han h b ∧ C_wei h b ∧ C_bag h b ∧ C_pri h b ∧ C_cnt h b ∧ C_led h b ∧ C_yea h b
theorem CompsL.lr {h : PH} {b : Nat} (c : CompsL h b) : LR (lvF h b 0) (lvG h b) := by
  obtain ⟨c_stat, c_realm, c_book, c_law, c_kin, c_shi, c_roa, c_ord, c_han, c_wei, c_bag, c_pri, c_cnt, c_led, c_yea⟩ := c
  exact ⟨c_stat.1, c_stat.2.1, c_stat.2.2, c_realm.2.1, c_realm.2.2, c_book, c_law, c_kin, c_shi, c_roa, c_ord, c_han, c_wei, c_bag.1, c_bag.2, c_pri, c_cnt, c_led, c_yea⟩
theorem CompsL.of {h : PH} {b : Nat} (l : LR (lvF h b 0) (lvG h b)) : CompsL h b := by
  obtain ⟨l1, l2, l3, l4, l5, l6, l7, l8, l9, l10, l11, l12, l13, l14, l15, l16, l17, l18, l19⟩ := l
  exact ⟨⟨l1, l2, l3⟩, ⟨⟨l3.1, l3.2.1⟩, l4, l5⟩, l6, l7, l8, l9, l10, l11, l12, l13, ⟨l14, l15⟩, l16, l17, l18, l19⟩
theorem image_take {b : Nat} {h : PH} (s : Shp h b) (cd : C_desk h b) (cl : CompsL h b) (c_log : C_log h b) (c_rdr : C_rdr h b) (c_msc : C_msc h b) (k : KeptOK h b) : ∃ hA hB, f_Tc_image_22 b h = some (1, hA) ∧ gX hA = gX h ∧ gK hA = gK h ∧ f_Mo_image (b + 131) 1 hA = some (1, hB) ∧ gX hB = gX h ∧ Inv b hB := by
  obtain ⟨k1, k2, k3, k4⟩ := k
  obtain ⟨hA, a1, C⟩ := cl_landcopy (b := b) (e := 173) (f := 0) (h := h) (by omega) k3 (XLd_0 s)
  have a1 : f_Land_copyFrom (b + 174) (b + 1) h = some hA := a1
  have KA : gK hA (b + 131) = (0, 9) := by rw [C.1]; exact s.K 131 (by decide) rfl
  have sA : Shp hA b := ⟨fun o ho => by rw [C.1]; exact s.1 o ho, fun o k q e => by rw [C.2.1]; exact s.2 o k q e⟩
  have sh : Shp (hS hA b 1) b := sA
  have loA : ∀ o j, o < 174 → gI hA (b + o) j = gI h (b + o) j := fun o j ho => C.2.2.2.2.2 o j (fun i h1 h2 z => by omega)
  obtain ⟨hB, S, e35⟩ := ks_image (tz := true) sh (by unfold hS; simp (disch := omega) only [gI_q, gI_n1, gI_n2]) (by unfold hS; simp (disch := omega) only [gI_q, gI_n1, gI_n2]; rfl) 1
  rw [if_neg n10, rtZ_1] at e35
  obtain ⟨S1, S2, S3, S4, S5, S6, S7, -⟩ := S
  obtain ⟨S7, S8⟩ := S7 rfl
  have K0 : gK h b = (0, 8) := s.K 0 (by decide) rfl
  have R00 : gR h b 0 = some (b + 1) := s.R 0 0 rfl
  have hiB : ∀ i j, 1 ≤ i → gI hB (b + (173 + i)) j = gI hA (b + (173 + i)) j := fun i j hi => by
    rw [S8 (173 + i) j (Or.inl (by omega)) (by omega), hS_I (by omega)]
  have n79 : LandImg hB b := by
    refine LR_img.mp (cl.lr.cg (F' := lvF hB b 173) (G' := imG hB b) ?_ (fun i j hi => ?_) (fun o j ho => ?_))
    · have w : ∀ i, 1 ≤ i → i < 40 → inL LDD i 0 = false → gI hB (b + (173 + i)) 0 = gI h (b + (173 + i)) 0 := fun i h1 h2 h3 => by
        rw [hiB i 0 h1]
        exact C.2.2.2.2.2 _ 0 (fun i' a1 a2 z => by rw [show i' = i by omega]; exact h3)
      obtain ⟨w1, w2, w3, w4, w5, w6, w7, w8, w9, w10⟩ := k4
      exact ⟨(w 14 (by omega) (by omega) (by decide)).trans w1, (w 19 (by omega) (by omega) (by decide)).trans w2, (w 21 (by omega) (by omega) (by decide)).trans w3, (w 23 (by omega) (by omega) (by decide)).trans w4, (w 26 (by omega) (by omega) (by decide)).trans w5, (w 28 (by omega) (by omega) (by decide)).trans w6, (w 30 (by omega) (by omega) (by decide)).trans w7, (w 32 (by omega) (by omega) (by decide)).trans w8, (w 34 (by omega) (by omega) (by decide)).trans w9, (w 36 (by omega) (by omega) (by decide)).trans w10⟩
    · obtain ⟨i1, i2⟩ := LDD_i hi
      show gI hB (b + (173 + i)) j = gI h (b + (0 + i)) j
      rw [hiB i j i1]
      exact C.2.2.2.2.1 i j i1 i2 hi
    · obtain ⟨m1, m2⟩ := sl_ok ho
      have ob := GDD_i ho
      have nf := GDD_f ho
      show gI hB (b + 173) (sl o j) = gI h (b + o) j
      rw [S7 _ m2, m1]
      show gI (hS hA b 1) (b + o) j = _
      rw [hS_I (fun z => nf ⟨z.1, by omega⟩), loA o j (by omega)]
  have tq : SnQ [(131, 0, 1), (131, 70, 73), (173, 0, 1853)] b h hB := by
    intro o j ho hj
    have z1 : ¬ (o = 131 ∧ (j = 0 ∨ j = 70 ∨ j = 71 ∨ j = 72)) := by
      rintro ⟨rfl, z⟩
      rcases z with rfl | rfl | rfl | rfl <;> exact absurd hj (by decide)
    have z2 : o ≠ 173 ∨ 1853 ≤ j := by
      rcases Nat.lt_or_ge j 1853 with q | q
      · left
        intro e
        rw [e, inL_in (lo := 0) (hi := 1853) (by decide) (by omega) q] at hj
        cases hj
      · exact Or.inr q
    rw [S8 o j z2 (by omega), hS_I z1, loA o j ho]
  refine ⟨hA, hB, ?_, C.2.2.2.1, C.1, ?_, S4.trans C.2.2.2.1, ?_⟩
  · unfold f_Tc_image_22
    rw [ldR_y K0 k1, bind_some', ldR_y K0 R00, bind_some', isO_y (show gK h (b + 174) = (0, 1) from k3.K 1 (by decide) rfl), bind_some', a1, bind_some', rtZ_1]
  · unfold f_Mo_image
    rw [stI_y KA, bind_some', if_neg n10, image18 KA (Or.inr rfl)]
    exact e35
  · obtain ⟨c_stat, c_realm, c_book, c_law, c_kin, c_shi, c_roa, c_ord, c_han, c_wei, c_bag, c_pri, c_cnt, c_led, c_yea⟩ := cl
    have gkB : gK hB = gK h := S1.trans C.1
    have grB : gR hB = gR h := S2.trans C.2.1
    refine ⟨⟨fun o ho => by rw [gkB]; exact s.1 o ho, fun o k q e => by rw [grB]; exact s.2 o k q e⟩, by unfold C_desk; rw [grB]; exact cd, c_stat.cq tq (by decide), c_realm.cq tq (by decide), c_book.cq tq (by decide), c_law.cq tq (by decide), c_kin.cq tq (by decide), c_shi.cq tq (by decide), c_roa.cq tq (by decide), c_ord.cq tq (by decide), c_han.cq tq (by decide), c_wei.cq tq (by decide), c_bag.cq tq (by decide), c_pri.cq tq (by decide), c_cnt.cq tq (by decide), c_led.cq tq (by decide), c_yea.cq tq (by decide), c_log.cq tq (by decide), c_rdr.cq tq (by decide), c_msc.cq tq (by decide), ?_⟩
    refine Or.inr ⟨by rw [grB]; exact k1, ?_, ?_, fun o ho => ?_, fun o k q ho er => ?_, n79⟩
    · rw [S8 131 71 (Or.inl (by omega)) (by omega)]
      unfold hS; simp (disch := omega) only [gI_q, gI_n1, gI_n2]
    · rw [S3.trans C.2.2.1]; exact k2
    · rw [gkB, show b + (174 + o) = b + (173 + (1 + o)) by omega]
      exact k3.1 (1 + o) (by omega) (by omega)
    · rw [grB, show b + (174 + o) = b + (173 + (1 + o)) by omega]
      exact k3.2 (1 + o) k q (by omega) (by omega) er
def LRS : SL := LDD ++ (GDD ++ [(40, 2, 3), (131, 0, 1), (131, 3, 4), (131, 70, 73)])
theorem image_give {b : Nat} {h : PH} (s : Shp h b) (cd : C_desk h b) (cl : CompsL h b) (c_log : C_log h b) (c_rdr : C_rdr h b) (c_msc : C_msc h b) (k1 : gR h b 5 = some (b + 174)) (k71 : gI h (b + 131) 71 = 1) (k2 : gN h = b + 213) (kk : ∀ o, o < 39 → gK h (b + (174 + o)) = KT (1 + o)) (kr : ∀ o k q, o < 39 → RT (1 + o) k = some q → gR h (b + (174 + o)) k = some (b + (173 + q))) (li : LandImg h b) : Both (Inv b) h (fun h => f_Tc_image b 0 h) (fun h => f_Mo_image (b + 131) 0 h) := by
  have k3 : XLd h b 173 := ⟨fun i h1 h2 => by
    have := kk (i - 1) (by omega)
    rw [show b + (174 + (i - 1)) = b + (173 + i) by omega, show 1 + (i - 1) = i by omega] at this
    exact this, fun i k q h1 h2 er => by
    have := kr (i - 1) k q (by omega) (by rw [show 1 + (i - 1) = i by omega]; exact er)
    rw [show b + (174 + (i - 1)) = b + (173 + i) by omega] at this
    exact this⟩
  obtain ⟨h4, a1, C⟩ := cl_landcopy (b := b) (e := 0) (f := 173) (h := h) (by omega) (XLd_0 s) k3
  have a1 : f_Land_copyFrom (b + 1) (b + 174) h = some h4 := a1
  obtain ⟨hA, eA⟩ : ∃ hA, hA = sI h4 (b + 40) 2 0 := ⟨_, rfl⟩
  have gA : gK hA = gK h ∧ gR hA = gR h ∧ gN hA = gN h ∧ gX hA = gX h := by rw [eA]; exact ⟨C.1, C.2.1, C.2.2.1, C.2.2.2.1⟩
  have KA : gK hA (b + 131) = (0, 9) := by rw [gA.1]; exact s.K 131 (by decide) rfl
  have sA : Shp hA b := ⟨fun o ho => by rw [gA.1]; exact s.1 o ho, fun o k q e => by rw [gA.2.1]; exact s.2 o k q e⟩
  have sh : Shp (hS hA b 0) b := sA
  obtain ⟨sB, S, e35⟩ := ks_image (tz := false) sh (by unfold hS; simp (disch := omega) only [gI_q, gI_n1, gI_n2]) (by unfold hS; simp (disch := omega) only [gI_q, gI_n1, gI_n2]; rfl) 0
  rw [if_pos rfl, rtZ_1] at e35
  obtain ⟨S1, S2, S3, S4, S5, S6, -, S7⟩ := S
  obtain ⟨S7, S8⟩ := S7 rfl
  obtain ⟨hB, eB⟩ : ∃ hB, hB = sI sB (b + 131) 3 0 := ⟨_, rfl⟩
  rw [← eB] at e35
  have K0 : gK h b = (0, 8) := s.K 0 (by decide) rfl
  have R00 : gR h b 0 = some (b + 1) := s.R 0 0 rfl
  have R01 : gR h4 b 1 = some (b + 40) := by rw [C.2.1]; exact s.R 0 1 rfl
  have K4 : gK h4 b = (0, 8) := by rw [C.1]; exact K0
  have K40 : gK h4 (b + 40) = (0, 3) := by rw [C.1]; exact s.K 40 (by decide) rfl
  have nM : ∀ {o j : Nat}, (o < 131 ∨ 173 ≤ o) → ∀ q, q < 1853 → mM q ≠ (o, j) := by
    intro o j ho q hq e
    have z := mM_all ⟨q, hq⟩
    have z : 131 ≤ (mM q).1 ∧ (mM q).1 < 173 ∧ _ := z
    rw [e] at z
    have : o ≥ 131 ∧ o < 173 := ⟨z.1, z.2.1⟩
    omega
  have stay : ∀ o j, inL LRS o j = false → (o < 40 ∨ 40 ≤ o) → gI hB (b + o) j = gI h (b + o) j := by
    intro o j ho _
    obtain ⟨z1, z2⟩ := inL_app ho
    obtain ⟨z2, z3⟩ := inL_app z2
    have y3 : ¬ (o = 131 ∧ (j = 0 ∨ j = 3 ∨ j = 70 ∨ j = 71 ∨ j = 72)) := by
      rintro ⟨rfl, z⟩
      rcases z with rfl | rfl | rfl | rfl | rfl <;> exact absurd z3 (by decide)
    have y4 : ¬ (o = 40 ∧ j = 2) := by
      rintro ⟨rfl, rfl⟩
      exact absurd z3 (by decide)
    rw [eB, gI_sI, if_neg (fun y => y3 ⟨by omega, by omega⟩), S8 o j (fun y => y3 ⟨y.1, by omega⟩) (fun q hq e => by
      have z := (mM_all ⟨q, hq⟩).2.2
      have z : inL GDD (mM q).1 (mM q).2 = true := z
      rw [e] at z
      rw [z2] at z
      cases z), hS_I (fun y => y3 ⟨y.1, by omega⟩), eA, gI_sI, if_neg (fun y => y4 ⟨by omega, y.2⟩)]
    exact C.2.2.2.2.2 o j (fun i h1 h2 z => by rw [show i = o by omega]; exact z1)
  have far : ∀ o j, 173 ≤ o → gI hB (b + o) j = gI h (b + o) j := by
    intro o j ho
    rw [eB, gI_n1 (by omega), S8 o j (by omega) (nM (Or.inr ho)), hS_I (by omega), eA, gI_n1 (by omega)]
    exact C.2.2.2.2.2 o j (fun i h1 h2 z => by omega)
  have tq : SnQ LRS b h hB := fun o j _ hj => stay o j hj (by omega)
  have lr : LR (lvF hB b 0) (lvG hB b) := by
    refine (LR_img.mpr li).cg (F' := lvF hB b 0) (G' := lvG hB b) ?_ (fun i j hi => ?_) (fun o j ho => ?_)
    · have w0 := cl.lr.w
      have w : ∀ i, i < 40 → inL LRS i 0 = false → gI hB (b + (0 + i)) 0 = gI h (b + (0 + i)) 0 := fun i h2 h3 => by
        rw [Nat.zero_add]; exact stay i 0 h3 (Or.inl h2)
      obtain ⟨w1, w2, w3, w4, w5, w6, w7, w8, w9, w10⟩ := w0
      exact ⟨(w 14 (by omega) (by decide)).trans w1, (w 19 (by omega) (by decide)).trans w2, (w 21 (by omega) (by decide)).trans w3, (w 23 (by omega) (by decide)).trans w4, (w 26 (by omega) (by decide)).trans w5, (w 28 (by omega) (by decide)).trans w6, (w 30 (by omega) (by decide)).trans w7, (w 32 (by omega) (by decide)).trans w8, (w 34 (by omega) (by decide)).trans w9, (w 36 (by omega) (by decide)).trans w10⟩
    · obtain ⟨i1, i2⟩ := LDD_i hi
      show gI hB (b + (0 + i)) j = gI h (b + (173 + i)) j
      rw [eB, gI_n1 (by omega), S8 (0 + i) j (by omega) (nM (Or.inl (by omega))), hS_I (by omega), eA, gI_n1 (by omega)]
      exact C.2.2.2.2.1 i j i1 i2 hi
    · obtain ⟨m1, m2⟩ := sl_ok ho
      have nf := GDD_f ho
      show gI hB (b + o) j = gI h (b + 173) (sl o j)
      have z := S7 _ m2
      rw [m1] at z
      have z : gI sB (b + o) j = gI (hS hA b 0) (b + 173) (sl o j) := z
      rw [eB, gI_sI, if_neg (fun y => nf ⟨by omega, by omega⟩), z, hS_I (by omega), eA, gI_n1 (by omega)]
      exact C.2.2.2.2.2 173 _ (fun i h1 h2 z => by omega)
  have gkB : gK hB = gK h := by rw [eB]; exact S1.trans gA.1
  have grB : gR hB = gR h := by rw [eB]; exact S2.trans gA.2.1
  refine ⟨1, hA, hB, ?_, gA.2.2.2, fun q hq => by rw [gA.1]; exact hq, ?_, by rw [eB]; exact S4.trans gA.2.2.2, ?_⟩
  · show f_Tc_image b 0 h = _
    unfold f_Tc_image f_Log_forget
    have lo : ldO h 8 b 5 = some (some (b + 174)) := by unfold ldO; rw [if_pos K0, k1]
    rw [if_pos rfl, lo, bind_some', if_neg (by simp), ldR_y K0 R00, bind_some', ldR_y K0 k1, bind_some', isO_y (s.K 1 (by decide) rfl), bind_some', a1, bind_some', ldR_y K4 R01, bind_some', isO_y K40, bind_some', stI_y K40, bind_some', bind_some', rtZ_1, eA]
  · show f_Mo_image (b + 131) 0 hA = _
    have g71 : gI (sI hA (b + 131) 0 0) (b + 131) 71 = 1 := by
      rw [gI_n2 (by omega), eA, gI_n1 (by omega)]
      exact (C.2.2.2.2.2 131 71 (fun i h1 h2 z => by omega)).trans k71
    unfold f_Mo_image
    rw [stI_y KA, bind_some', if_pos rfl, ldI_y (h := sI hA (b + 131) 0 0) KA, bind_some', g71, if_neg n10, image18 KA (Or.inl rfl)]
    exact e35
  · obtain ⟨c_stat, c_realm, c_book, c_law, c_kin, c_shi, c_roa, c_ord, c_han, c_wei, c_bag, c_pri, c_cnt, c_led, c_yea⟩ := CompsL.of lr
    have n_log : C_log hB b := by
      refine C_log_0 c_realm.1.1 c_realm.1.2 ?_ ?_ ?_
      · obtain ⟨nx, y1, y2⟩ := c_log.nx
        exact ⟨nx, y1, by rw [tq.I (o := 40) (j := 1) (by decide)]; exact y2⟩
      · rw [eB, gI_n1 (by omega), S8 40 2 (by omega) (nM (Or.inl (by omega))), hS_I (by omega), eA]; simp (disch := omega) only [gI_q, gI_n1, gI_n2]
      · rw [eB]; simp (disch := omega) only [gI_q, gI_n1, gI_n2]
    refine ⟨⟨fun o ho => by rw [gkB]; exact s.1 o ho, fun o k q e => by rw [grB]; exact s.2 o k q e⟩, by unfold C_desk; rw [grB]; exact cd, c_stat, c_realm, c_book, c_law, c_kin, c_shi, c_roa, c_ord, c_han, c_wei, c_bag, c_pri, c_cnt, c_led, c_yea, n_log, c_rdr.cq tq (by decide), c_msc.cq tq (by decide), ?_⟩
    have b71 : gI hB (b + 131) 71 = 1 := by
      rw [eB, gI_n2 (by omega), S8 131 71 (by omega) (fun q hq e => (GDD_f (o := 131) (j := 71) (by
        have z := (mM_all ⟨q, hq⟩).2.2
        have z : inL GDD (mM q).1 (mM q).2 = true := z
        rw [e] at z
        exact z)) ⟨rfl, by omega⟩)]
      unfold hS; simp (disch := omega) only [gI_q, gI_n1, gI_n2]
    refine Or.inr ⟨by rw [grB]; exact k1, b71, by rw [eB, gN_sI, S3.trans gA.2.2.1]; exact k2, fun o ho => by rw [gkB]; exact kk o ho, fun o k q ho er => by rw [grB]; exact kr o k q ho er, li.cg (fun o j ho => ?_)⟩
    by_cases z : 173 ≤ o
    · exact far o j z
    · have key : ∀ p ∈ U_img, p.1 < 173 → p = (131, 71, 72) := by decide
      unfold inL at ho
      rw [List.any_eq_true] at ho
      obtain ⟨p, hp, ho⟩ := ho
      simp only [Bool.and_eq_true, beq_iff_eq, decide_eq_true_eq] at ho
      have e := key p hp (by omega)
      rw [e] at ho
      obtain ⟨o1, o2, o3⟩ := ho
      have o1 : 131 = o := o1
      have o2 : 71 ≤ j := o2
      have o3 : j < 72 := o3
      rw [← o1, show j = 71 by omega, b71, k71]
theorem op_image (b : Nat) : B_image (Inv b) b (b + 131) := by
  intro h I z hz
  have I0 := I
  obtain ⟨s, cd, c_stat, c_realm, c_book, c_law, c_kin, c_shi, c_roa, c_ord, c_han, c_wei, c_bag, c_pri, c_cnt, c_led, c_yea, c_log, c_rdr, c_msc, c_img⟩ := I
  have cl : CompsL h b := ⟨c_stat, c_realm, c_book, c_law, c_kin, c_shi, c_roa, c_ord, c_han, c_wei, c_bag, c_pri, c_cnt, c_led, c_yea⟩
  have K0 : gK h b = (0, 8) := s.K 0 (by decide) rfl
  have K131 : gK h (b + 131) = (0, 9) := s.K 131 (by decide) rfl
  rcases hz with rfl | rfl
  · rcases c_img with ⟨k1, k71, k2, k3⟩ | ⟨k1, k71, k2, k3, k4, k5⟩
    · have lo : ldO h 8 b 5 = some none := by unfold ldO; rw [if_pos K0, k1]
      have g71 : gI (sI h (b + 131) 0 0) (b + 131) 71 = 0 := by rw [gI_n2 (by omega)]; exact k71
      refine both_ref I0 (r := 0) ?_ ?_
      · show f_Tc_image b 0 h = _
        unfold f_Tc_image
        rw [if_pos rfl, lo, bind_some', if_pos rfl, rtZ_0]
      · show f_Mo_image (b + 131) 0 h = _
        unfold f_Mo_image
        rw [stI_y K131, bind_some', if_pos rfl, ldI_y (h := sI h (b + 131) 0 0) K131, bind_some', g71, if_pos rfl, rtZ_0]
    · exact image_give s cd cl c_log c_rdr c_msc k1 k71 k2 k3 k4 k5
  · rcases c_img with ⟨k1, k71, k2, k3⟩ | ⟨k1, k71, k2, k3, k4, k5⟩
    · have lo : ldO h 8 b 5 = some none := by unfold ldO; rw [if_pos K0, k1]
      obtain ⟨h11, d1, d2, d3, d4, d5⟩ := new_land s k2 k3
      generalize hq : sR h11 b 5 (some (b + 174)) = h12 at d2 d5
      have gi : ∀ o j, o < 174 → gI h12 (b + o) j = gI h (b + o) j := fun o j ho => by rw [← hq]; exact ((d4 (b + o) (by omega)).2 j).2
      have gk : ∀ a, a < b + 174 → gK h12 a = gK h a := fun a ha => by rw [← hq]; exact (d4 a ha).1
      have gr : ∀ o k, o < 174 → ¬ (o = 0 ∧ k = 5) → gR h12 (b + o) k = gR h (b + o) k := fun o k ho hn => by
        rw [← hq, gR_sR, if_neg (fun y => hn ⟨by omega, y.2⟩)]
        exact ((d4 (b + o) (by omega)).2 k).1
      have s12 : Shp h12 b := ⟨fun o ho => by rw [gk _ (by omega)]; exact s.1 o ho, fun o k q e => by
        rw [gr o k (RT_bd e).1 (fun z => by rw [z.1, z.2, RT_05] at e; cases e)]
        exact s.2 o k q e⟩
      have tq : SnQ [] b h h12 := fun o j ho _ => gi o j ho
      have cd12 : C_desk h12 b := by unfold C_desk; rw [gr 124 4 (by omega) (by omega), gr 124 5 (by omega) (by omega)]; exact cd
      have cl12 : CompsL h12 b := ⟨c_stat.cq tq (by decide), c_realm.cq tq (by decide), c_book.cq tq (by decide), c_law.cq tq (by decide), c_kin.cq tq (by decide), c_shi.cq tq (by decide), c_roa.cq tq (by decide), c_ord.cq tq (by decide), c_han.cq tq (by decide), c_wei.cq tq (by decide), c_bag.cq tq (by decide), c_pri.cq tq (by decide), c_cnt.cq tq (by decide), c_led.cq tq (by decide), c_yea.cq tq (by decide)⟩
      obtain ⟨hA, hB, e1, x1, g1, e2, x2, i2⟩ := image_take s12 cd12 cl12 (c_log.cq tq (by decide)) (c_rdr.cq tq (by decide)) (c_msc.cq tq (by decide)) d5
      have x12 : gX h12 = gX h := by rw [← hq, gX_sR]; exact d3
      refine ⟨1, hA, hB, ?_, x1.trans x12, fun q hq9 => ?_, e2, x2.trans x12, i2⟩
      · show f_Tc_image b 1 h = _
        unfold f_Tc_image
        rw [if_neg n10, lo, bind_some', if_pos rfl, bind_some', d1, bind_some', d2, bind_some']
        exact e1
      · rcases Nat.lt_or_ge q (b + 174) with z | z
        · rw [g1, gk q z]; exact hq9
        · rw [k3 q z] at hq9; cases hq9
    · have lo : ldO h 8 b 5 = some (some (b + 174)) := by unfold ldO; rw [if_pos K0, k1]
      have k3' : XLd h b 173 := ⟨fun i h1 h2 => by
        have := k3 (i - 1) (by omega)
        rw [show b + (174 + (i - 1)) = b + (173 + i) by omega, show 1 + (i - 1) = i by omega] at this
        exact this, fun i k q h1 h2 er => by
        have := k4 (i - 1) k q (by omega) (by rw [show 1 + (i - 1) = i by omega]; exact er)
        rw [show b + (174 + (i - 1)) = b + (173 + i) by omega] at this
        exact this⟩
      obtain ⟨hA, hB, e1, x1, g1, e2, x2, i2⟩ := image_take s cd cl c_log c_rdr c_msc ⟨k1, k2, k3', (LR_img.mpr k5).w⟩
      refine ⟨1, hA, hB, ?_, x1, fun q hq => by rw [g1]; exact hq, e2, x2, i2⟩
      show f_Tc_image b 1 h = _
      unfold f_Tc_image
      rw [if_neg n10, lo, bind_some', if_neg (by simp)]
      exact e1
