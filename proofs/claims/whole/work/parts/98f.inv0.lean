/-! ===== what stands at the start ===== -/
theorem start_inv (b : Nat) (X : XS) : ∃ h2 h4, f_Tc_init b (nw (h00 b X) (0, 8)) = some h2 ∧ gN h2 = b + 131 ∧ f_Mo_init (b + 131) (nw h2 (0, 9)) = some h4 ∧ Inv b h4 ∧ gX h4 = X := by
  have T0 : Tr b (h00 b X) (h00 b X) H00 := ⟨rfl, rfl, fun o ho => absurd ho (Nat.not_lt_zero o), fun a _ => ⟨rfl, fun _ => ⟨rfl, rfl⟩⟩, fun o k v ho _ => absurd ho (Nat.not_lt_zero o), fun a _ => rfl⟩
  have e2 : f_Tc_init 0 (nw H00 (0, 8)) = some H2c := H2_e.1
  have e4 : f_Mo_init 131 (nw H2c (0, 9)) = some H4c := by
    have := H4_e.1
    unfold cH4 at this
    rw [H2_e.1, bind_some'] at this
    exact this
  obtain ⟨h2, d2, t2, -⟩ := tr_Tc_init (T0.nw' (kd := (0, 8))) (a := 0) (by show 0 < 0 + 1; omega) e2
  have d2 : f_Tc_init b (nw (h00 b X) (0, 8)) = some h2 := d2
  have n2 : gN h2 = b + 131 := by rw [t2.n, H2_e.2]
  obtain ⟨h4, d4, t4, -⟩ := tr_Mo_init (t2.nw' (kd := (0, 9))) (a := 131) (by show 131 < gN H2c + 1; rw [H2_e.2]; omega) e4
  refine ⟨h2, h4, d2, n2, d4, ?_, t4.2.1⟩
  have c4 : ∀ o, o < 174 → gK h4 (b + o) = gK H4c o ∧ ∀ k, gR h4 (b + o) k = (gR H4c o k).map (fun x => b + x) ∧ gI h4 (b + o) k = gI H4c o k := fun o ho => t4.2.2.1 o (by rw [H4_e.2]; exact ho)
  have g : ∀ o j, o < 174 → gI h4 (b + o) j = gI H4c o j := fun o j ho => ((c4 o ho).2 j).2
  have z : ∀ {o j : Nat} {v : Int32}, o < 174 → (o, j, v) ∈ IL0 → gI h4 (b + o) j = v := fun ho hm => (g _ _ ho).trans (H4_i hm)
  have gr : ∀ o k, o < 174 → gR h4 (b + o) k = (gR H4c o k).map (fun x => b + x) := fun o k ho => ((c4 o ho).2 k).1
  have s : Shp h4 b := ⟨fun o ho => (c4 o ho).1.trans (H4_K ⟨o, ho⟩), fun o k q e => by rw [gr o k (RT_bd e).1, H4_R3 e]; rfl⟩
  have nt0 : ntOf h4 b = 0 := by unfold ntOf; rw [z (o := 131) (j := 6) (v := 0) (by omega) (by decide)]; rfl
  have no0 : noOf h4 b = 0 := by unfold noOf; rw [z (o := 131) (j := 7) (v := 0) (by omega) (by decide)]; rfl
  have cd : C_desk h4 b := Or.inl ⟨by rw [gr 124 4 (by omega), H4_R'.1]; rfl, by rw [gr 124 5 (by omega), H4_R'.2.1]; rfl⟩
  have c_stat : C_stat h4 b := by
    unfold C_stat
    rw [nt0, no0]
    exact ⟨z (by omega) (by decide), z (by omega) (by decide), by omega, by omega, fun t ht => absurd ht (Nat.not_lt_zero t), fun t ht => absurd ht (Nat.not_lt_zero t)⟩
  have c_realm : C_realm h4 b := by
    unfold C_realm RealmAt RlR RowOK
    rw [nt0, no0]
    have r6 : gI h4 (b + 132) 6 = 0 := z (by omega) (by decide)
    refine ⟨⟨by omega, by omega⟩, ⟨⟨0, by omega, z (by omega) (by decide)⟩, ⟨0, by omega, z (by omega) (by decide)⟩, ⟨0, by omega, r6⟩, fun t ht => absurd ht (Nat.not_lt_zero t), fun t ht => absurd ht (Nat.not_lt_zero t)⟩, z (by omega) (by decide), z (by omega) (by decide), ?_, ?_, ?_, ?_, ?_, ?_, ?_, z (o := 2) (j := 7) (v := 0) (by omega) (by decide), z (o := 2) (j := 8) (v := 0) (by omega) (by decide), fun t ht => absurd ht (Nat.not_lt_zero t), fun t ht => absurd ht (Nat.not_lt_zero t)⟩
    · rw [z (o := 2) (j := 0) (v := 0) (by omega) (by decide), z (o := 132) (j := 1) (v := 0) (by omega) (by decide)]
    · rw [z (o := 2) (j := 15) (v := 0) (by omega) (by decide), z (o := 132) (j := 3) (v := 0) (by omega) (by decide)]
    · rw [z (o := 2) (j := 16) (v := 0) (by omega) (by decide), z (o := 132) (j := 4) (v := 0) (by omega) (by decide)]
    · rw [z (o := 2) (j := 17) (v := 0) (by omega) (by decide), z (o := 132) (j := 5) (v := 0) (by omega) (by decide)]
    · rw [z (o := 2) (j := 18) (v := 0) (by omega) (by decide), z (o := 132) (j := 0) (v := 0) (by omega) (by decide)]
    · rw [z (o := 2) (j := 19) (v := 0) (by omega) (by decide), z (o := 132) (j := 2) (v := 0) (by omega) (by decide)]
    · rw [z (o := 2) (j := 14) (v := 15) (by omega) (by decide), r6]; decide
  have c_book : C_book h4 b := fun j hj => by rw [g 12 j (by omega), g 139 j (by omega), (H4_12 ⟨j, hj⟩).1, (H4_12 ⟨j, hj⟩).2]
  have c_law : C_law h4 b := ⟨0, 0, by omega, by omega, ⟨z (by omega) (by decide), z (by omega) (by decide)⟩, z (by omega) (by decide), z (by omega) (by decide), fun i hi => absurd hi (Nat.not_lt_zero i), fun i hi => absurd hi (Nat.not_lt_zero i)⟩
  have c_kin : C_kin h4 b := ⟨0, by omega, ⟨z (by omega) (by decide), z (by omega) (by decide)⟩, z (by omega) (by decide), fun i hi => absurd hi (Nat.not_lt_zero i), fun t ht => by rw [g 150 t (by omega), (H4_12b ⟨t, ht⟩).1]; rfl⟩
  have c_shi : C_shi h4 b := ⟨0, by omega, ⟨z (by omega) (by decide), z (by omega) (by decide)⟩, z (by omega) (by decide), fun i hi => absurd hi (Nat.not_lt_zero i)⟩
  have c_roa : C_roa h4 b := ⟨0, by omega, ⟨z (by omega) (by decide), z (by omega) (by decide)⟩, z (by omega) (by decide), fun i hi => absurd hi (Nat.not_lt_zero i)⟩
  have c_ord : C_ord h4 b := ⟨0, by omega, ⟨z (by omega) (by decide), z (by omega) (by decide)⟩, z (by omega) (by decide), fun i hi => absurd hi (Nat.not_lt_zero i)⟩
  have c_han : C_han h4 b := ⟨0, by omega, ⟨z (by omega) (by decide), z (by omega) (by decide)⟩, z (by omega) (by decide), fun i hi => absurd hi (Nat.not_lt_zero i), fun t ht => by rw [g 158 t (by omega), (H4_12b ⟨t, by omega⟩).2]; rfl⟩
  have c_wei : C_wei h4 b := ⟨0, by omega, ⟨z (by omega) (by decide), z (by omega) (by decide)⟩, z (by omega) (by decide), fun i hi => absurd hi (Nat.not_lt_zero i)⟩
  have c_bag : C_bag h4 b := ⟨⟨0, by omega, ⟨z (by omega) (by decide), z (by omega) (by decide)⟩, z (by omega) (by decide), fun i hi => absurd hi (Nat.not_lt_zero i)⟩, ⟨0, by omega, ⟨z (by omega) (by decide), z (by omega) (by decide)⟩, z (by omega) (by decide), fun i hi => absurd hi (Nat.not_lt_zero i)⟩⟩
  have c_pri : C_pri h4 b := ⟨0, by omega, ⟨z (by omega) (by decide), z (by omega) (by decide)⟩, z (by omega) (by decide), fun i hi => absurd hi (Nat.not_lt_zero i)⟩
  have c_cnt : C_cnt h4 b := fun j hj => ⟨0, Nat.zero_le _, by rw [g 38 j (by omega), (H4_24 ⟨j, hj⟩).1]; rfl, by rw [g 168 j (by omega), (H4_24 ⟨j, hj⟩).2.1]; rfl⟩
  have c_led : C_led h4 b := fun j hj => ⟨0, Nat.zero_le _, by rw [g 39 j (by omega), (H4_24 ⟨j, hj⟩).2.2.1]; rfl, by rw [g 172 j (by omega), (H4_24 ⟨j, hj⟩).2.2.2]; rfl⟩
  have c_yea : C_yea h4 b := ⟨0, 0, by omega, by decide, z (by omega) (by decide), z (by omega) (by decide), z (by omega) (by decide), z (by omega) (by decide)⟩
  have c_log : C_log h4 b := C_log_0 (by rw [nt0]; omega) (by rw [no0]; omega) ⟨0, by omega, z (by omega) (by decide)⟩ (z (by omega) (by decide)) (z (by omega) (by decide))
  have c_rdr : C_rdr h4 b := ⟨⟨0, by omega, z (by omega) (by decide), z (by omega) (by decide)⟩, by rw [z (o := 102) (j := 2) (v := 0) (by omega) (by decide), z (o := 131) (j := 34) (v := 0) (by omega) (by decide)], by rw [z (o := 102) (j := 3) (v := -1) (by omega) (by decide), z (o := 131) (j := 35) (v := -1) (by omega) (by decide)], fun j hj => ⟨0, Nat.zero_le _, by rw [g 103 j (by omega), (H4_103 ⟨j, hj⟩).1]; rfl, by rw [g 140 j (by omega), (H4_103 ⟨j, hj⟩).2]; rfl⟩⟩
  have c_msc : C_msc h4 b := ⟨z (by omega) (by decide), ⟨z (by omega) (by decide), z (by omega) (by decide)⟩, fun j hj => by rw [g 141 j (by omega)]; exact H4_141 ⟨j, hj⟩⟩
  have c_img : C_img h4 b := Or.inl ⟨by
    have := gr 0 5 (by omega)
    rw [H4_R'.2.2] at this
    exact this, z (by omega) (by decide), by rw [t4.n, H4_e.2], fun q hq => t4.2.2.2.2.2 q (by rw [H4_e.2]; exact hq)⟩
  exact ⟨s, cd, c_stat, c_realm, c_book, c_law, c_kin, c_shi, c_roa, c_ord, c_han, c_wei, c_bag, c_pri, c_cnt, c_led, c_yea, c_log, c_rdr, c_msc, c_img⟩
