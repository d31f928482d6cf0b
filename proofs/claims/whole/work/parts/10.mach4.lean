/-! making cells, the library's own members -/
section SOUND3
variable {b0 : Nat} {D : va_G} {cI cR : ClassId} {xs : XS}
theorem dflt_ok (ci j : Nat) : defaultValue (fty ci j) = if isRf (fty ci j) = true then .null else .int 0 := by
  unfold fty
  split
  · unfold tyX0; split <;> rfl
  · unfold tyX1; split <;> rfl
  · unfold tyX2; split <;> rfl
  · unfold tyX3; split <;> rfl
  · unfold tyX4; split <;> rfl
  · unfold tyX5; split <;> rfl
  · unfold tyX6; split <;> rfl
  · unfold tyX7; split <;> rfl
  · unfold tyX8; split <;> rfl
  · unfold tyX9; split <;> rfl
theorem Rep.push {h : PH} {kd : Nat × Nat} {H H1 : Heap} (hR : Rep b0 D cI cR xs h H) (hz : H1.size = gN h + 1) (oq : ∀ q : Nat, q < gN h → H1[q]? = H[q]?) (ha : va_at D clsOf (gN h, cellE cI cR (nw h kd) (gN h)) H1) : Rep b0 D cI cR xs (nw h kd) H1 := by
  obtain ⟨h1, h2, h3, h4⟩ := hR
  refine ⟨hz, Nat.le_succ_of_le h2, h3, fun b hb => ?_⟩
  by_cases hba : b = gN h
  · subst hba
    exact ⟨h2, Nat.lt_succ_self _, ha⟩
  · have eK : gK (nw h kd) b = gK h b := by simp [gK, nw, hba]
    rw [eK] at hb
    obtain ⟨i1, i2, i3⟩ := h4 b hb
    refine ⟨i1, Nat.lt_succ_of_lt i2, ?_⟩
    have e1 : gI (nw h kd) b = gI h b := by funext j; simp [gI, nw, hba]
    have e3 : gR (nw h kd) b = gR h b := by funext j; simp [gR, nw, hba]
    have e2 : ∀ c, fv (nw h kd) c b = fv h c b := by intro c; funext j; unfold fv; rw [e1, e3]
    have e : cellE cI cR (nw h kd) b = cellE cI cR h b := by
      unfold cellE
      rw [e1, eK, e3]
      simp only [e2]
    rw [e]
    exact i3.kept (oq b i2)
theorem S_push {A : Nat → Prop} {H0 H H1 : Heap} {locs : List Loc} {n : Nat} (hS : va_S A H0 H locs) (h0 : H.size = n) (hz : H1.size = n + 1) (o1 : ∀ q : Nat, q < n → H1[q]? = H[q]?) : va_S A H0 H1 locs :=
  ⟨Nat.le_trans hS.1 (by omega), fun x h1 h2 => (o1 x (by have := hS.1; omega)).trans (hS.2.1 x h1 h2), hS.2.2⟩
theorem k_new : r_new (Mach b0 D cI cR xs) := by
  intro d mc ms M pc ls st h Q idx ci mc' ms' hd hw hm1 hm2 kk p l e R s m args below meth c H locs cells slots lsA Qc mcT msT C hl hR hS g1 g2 g3 g4 hQ
  have k' := fun H1 hR1 hS1 => kk p l e R s m args below meth c H1 locs (cells + 1) (slots + cN ci) lsA Qc mcT msT C hl hR1 hS1 (by omega) (by omega) g3 g4 hQ
  obtain ⟨hx, hb, -, -, ho, ht, -, hnm, hK, -⟩ := C
  obtain ⟨q, hq, w1, w2, w3⟩ := hw
  obtain ⟨i1, i2, i3, i4⟩ := cls_ok hq
  have hKn := hK.1 ci _ hq
  rw [i4] at w2
  refine W.newcK hx hb ho (ht _ (inT_g w1)) (ht _ (inT_g w2)) (ht _ (inT_g w3)) rfl hd (by omega) (by omega) hKn.2.1 hR.1 fun H1 kC hkC e1 z1 o1 => ?_
  refine k' H1 (hR.push z1 o1 ?_) (S_push hS hR.1 z1 o1)
  rw [cE_o (ci := ci) (by simp [gK, nw])]
  refine ⟨_, hq, (u_born (fty ci) ht i1 hKn hkC e1 i2).to fun j hj => ?_⟩
  rw [vV_at (by rw [← i4]; exact hj), dflt_ok]
  unfold fv
  split
  · simp [gR, nw, va_rf]
  · simp [gI, nw]
theorem nI_cl {n : Nat} (h : n < 65536) : (nI n).toNatClampNeg = n := nI_clamp (by omega)
theorem k_newa : r_newa (Mach b0 D cI cR xs) := by
  intro d mc ms M pc ls st h Q mc' ms' x n hd hxn hn hm1 hm2 kk p l e R s m args below meth c H locs cells slots lsA Qc mcT msT C hl hR hS g1 g2 g3 g4 hQ
  have k' := fun H1 hR1 hS1 => kk p l e R s m args below meth c H1 locs (cells + 1) (slots + n) lsA Qc mcT msT C hl hR1 hS1 (by omega) (by omega) g3 g4 hQ
  obtain ⟨hx, hb, -, -, ho, ht, -, hnm, hK, -⟩ := C
  subst hxn
  refine va_newaK (atype := .int) (N := n) hx hb (ht _ (inT_g w_arrI)) rfl hd rfl (nI_pos (by omega)) (nI_cl hn) (by show n * 4 ≤ _; omega) (by omega) (by omega) hR.1 fun H1 cA e1 z1 o1 _ hNm => ?_
  have hcA : cA = cI := Option.some.inj (hNm.symm.trans (hK.2 0 _ rfl).2)
  subst hcA
  refine k' H1 (hR.push z1 o1 ?_) (S_push hS hR.1 z1 o1)
  rw [cE_i (n := n) (by simp [gK, nw])]
  show H1[gN h]? = some (vp_cell _ _)
  rw [e1, vp_cell_i]
  congr 2
  funext q
  simp [gI, nw]
  rfl
theorem k_newr : r_newr (Mach b0 D cI cR xs) := by
  intro d mc ms M pc ls st h Q mc' ms' idx x n hd hw hxn hn hm1 hm2 kk p l e R s m args below meth c H locs cells slots lsA Qc mcT msT C hl hR hS g1 g2 g3 g4 hQ
  have k' := fun H1 hR1 hS1 => kk p l e R s m args below meth c H1 locs (cells + 1) (slots + n) lsA Qc mcT msT C hl hR1 hS1 (by omega) (by omega) g3 g4 hQ
  obtain ⟨hx, hb, -, -, ho, ht, -, hnm, hK, hE, -⟩ := C
  subst hxn
  refine W.anew hx hb ho (ht _ (inT_g hw)) (va_AO.use hE.1) rfl hd rfl (nI_pos (by omega)) (by rw [nI_cl hn]; omega) (by omega) (by rw [nI_cl hn]; omega) fun cA kA comp f1 f2 f3 f4 => ?_
  rw [nI_cl hn]
  obtain ⟨kA', comp', k1, k2, k3, k4⟩ := (hK.2 1 _ rfl).2
  have hcA : cA = cR := Option.some.inj (f1.symm.trans k4)
  subst hcA
  generalize hH1 : H.push ({ cls := cA, slots := Array.replicate n .null, vm := .none } : Cell) = H1
  have z1 : H1.size = gN h + 1 := by rw [← hH1, Array.size_push, hR.1]
  have e1 : H1[gN h]? = some (arrV cA n (fun _ => .null)) := by rw [← hH1, ← hR.1, Array.getElem?_push_size, ← arrV_new]
  have o1 : ∀ q : Nat, q < gN h → H1[q]? = H[q]? := fun q hq => by rw [← hH1, Array.getElem?_push, if_neg (by rw [hR.1]; exact Nat.ne_of_lt hq)]
  have r := k' H1 (hR.push z1 o1 (by
    rw [cE_r (n := n) (by simp [gK, nw])]
    show H1[gN h]? = some (vp_cell _ _)
    rw [e1, vp_cell_q]
    congr 2
    funext q
    simp [gR, nw, va_rf])) (S_push hS hR.1 z1 o1)
  rw [hR.1]
  exact r
theorem k_obj : r_obj (Mach b0 D cI cR xs) := by
  intro d mc ms M pc ls st h Q idx a hd hw hr kk p l e R s m args below meth c H locs cells slots lsA Qc mcT msT C hl hR hS g1 g2 g3 g4 hQ
  have k' := kk p l e R s m args below meth c H locs cells slots lsA Qc mcT msT C hl hR hS g1 g2 g3 g4 hQ
  obtain ⟨hx, hb, -, hml, ho, ht, -, hnm, hK, hE, f1, f2, -⟩ := C
  exact W.objInit hx hb ho (ht _ (inT_g hw)) (ht _ (inT_g w_obj1)) (ht _ (inT_g w_obj2)) rfl (by show lsA.size = _; rw [hml]; exact hl.1) rfl hd (by omega) (by show 2 * 0 + _ + 12 ≤ _; omega) k'
theorem k_max : r_max (Mach b0 D cI cR xs) := by
  intro d mc ms M pc ls st h Q idx x y hd hw hr kk p l e R s m args below meth c H locs cells slots lsA Qc mcT msT C hl hR hS g1 g2 g3 g4 hQ
  have k' := kk p l e R s m args below meth c H locs cells slots lsA Qc mcT msT C hl hR hS g1 g2 g3 g4 hQ
  obtain ⟨hx, hb, -, hml, ho, ht, -, hnm, hK, hE, f1, f2, -⟩ := C
  exact va_mmax hx hb (by rw [hml]; exact hl.1.symm) ho (ht _ (inT_g hw)) (ht _ (inT_g w_max1)) (ht _ (inT_g w_math)) (ht _ (inT_g w_max2)) (by omega) (by omega) (by omega) (by omega) hd k'
theorem k_min : r_min (Mach b0 D cI cR xs) := by
  intro d mc ms M pc ls st h Q idx x y hd hw hr kk p l e R s m args below meth c H locs cells slots lsA Qc mcT msT C hl hR hS g1 g2 g3 g4 hQ
  have k' := kk p l e R s m args below meth c H locs cells slots lsA Qc mcT msT C hl hR hS g1 g2 g3 g4 hQ
  obtain ⟨hx, hb, -, hml, ho, ht, -, hnm, hK, hE, f1, f2, -⟩ := C
  exact va_mmin hx hb (by rw [hml]; exact hl.1.symm) ho (ht _ (inT_g hw)) (ht _ (inT_g w_min1)) (ht _ (inT_g w_math)) (ht _ (inT_g w_min2)) (by omega) (by omega) (by omega) (by omega) hd k'
theorem k_copy : r_copy (Mach b0 D cI cR xs) := by
  intro d mc ms M pc ls st h Q idx a n1 b n2 sp dp n hd hw hr hka hkb hs hdd hn1 hn2 kk p l e R s m args below meth c H locs cells slots lsA Qc mcT msT C hl hR hS g1 g2 g3 g4 hQ
  have k' := fun H1 locs1 hR1 hS1 => kk p l e R s m args below meth c H1 locs1 cells slots lsA Qc mcT msT C hl hR1 hS1 g1 g2 g3 g4 hQ
  obtain ⟨hx, hb, -, hml, ho, ht, -, hnm, hK, hE, f1, f2, -⟩ := C
  have hata := (hR.2.2.2 a (lt3 hka)).2.2
  obtain ⟨ib, -, hatb⟩ := hR.2.2.2 b (lt3 hkb)
  rw [cE_i hka] at hata
  rw [cE_i hkb] at hatb
  have hc0 : H[a]? = some (vp_cell cI (n1, .inl (gI h a))) := hata
  have hc1 : H[b]? = some (vp_cell cI (n2, .inl (gI h b))) := hatb
  have cl : ∀ z : Nat, z < 65536 → (nI z).toInt = (z : Int) := fun z hz => nI_toInt (by omega)
  intro T hT X
  obtain ⟨-, k0, hk0, cm0, hkk0⟩ := (hK.2 0 _ rfl).1 n1 (fun j => .int (gI h a j))
  obtain ⟨-, k1, hk1, cm1, hkk1⟩ := (hK.2 0 _ rfl).1 n2 (fun j => .int (gI h b j))
  obtain ⟨vm', X', step⟩ := X.arraycopy hx ho (ht _ (inT_g hw)) (ht _ (inT_g w_cp1)) (ht _ (inT_g w_cp2)) (ht _ (inT_g w_cp3)) (src := a) (dst := b) (cs := vp_cell cI (n1, .inl (gI h a))) (cd := vp_cell cI (n2, .inl (gI h b))) (srcPos := nI sp) (destPos := nI dp) (n := nI n) (by rw [hT]; exact hc0) (by rw [hT]; exact hc1)
    (fun _ h => by cases h) (fun _ h => by cases h) (fun h => by cases h) (fun h => by cases h) hk0 hk1 hkk0 hkk1 (by simp [refKind]) (nI_pos (by omega)) (nI_pos (by omega)) (nI_pos (by omega))
    (by rw [cl sp (by omega), cl n (by omega)]; show ¬ _ > ((arrV cI n1 (fun j => .int (gI h a j))).slots.size : Int); rw [arrV_size]; omega)
    (by rw [cl dp (by omega), cl n (by omega)]; show ¬ _ > ((arrV cI n2 (fun j => .int (gI h b j))).slots.size : Int); rw [arrV_size]; omega)
    (fun vm₁ _ i hi => by
      rw [nI_cl (by omega)] at hi
      have e : (vp_cell cI (n1, .inl (gI h a))).slots.getD ((nI sp).toNatClampNeg + i) .null = .int (gI h a (sp + i)) := by
        show (arrV cI n1 (fun j => .int (gI h a j))).slots.getD _ _ = _
        rw [nI_cl (by omega), Array.getD_eq_getD_getElem?, arrV_read _ _ (by omega)]
        rfl
      refine ⟨?_, ?_⟩
      · rw [e]; rfl
      · rw [e]; exact trivial)
    (g := F0 m pc lsA (.int (nI n) :: .int (nI dp) :: .ref b :: .int (nI sp) :: .ref a :: st)) rfl (by rw [hml]; exact hl.1) (rest := st) rfl (by rw [hb]; exact hd) (by omega) (by
      have : nativeFrameWords "java/lang/System" "arraycopy" 5 ≤ 40 := by decide
      show 2 * 0 + _ + _ ≤ _; omega)
  have e1 : copied (vp_cell cI (n1, .inl (gI h a))) (vp_cell cI (n2, .inl (gI h b))) (nI sp) (nI dp) (nI n) = vp_cell cI (n2, .inl (va_cpy (gI h a) (gI h b) (nI sp).toNatClampNeg (nI dp).toNatClampNeg (nI n).toNatClampNeg)) := va_copied (fun z => .int z) cI cI (gI h a) (gI h b) (by rw [nI_cl (by omega), nI_cl (by omega)]; omega)
  rw [nI_cl (by omega), nI_cl (by omega), nI_cl (by omega)] at e1
  rw [e1] at X' step
  have hl' : b < H.size := (Array.getElem?_eq_some_iff.mp hc1).1
  have hheap : ((T.setVm vm').setCell b (vp_cell cI (n2, .inl (va_cpy (gI h a) (gI h b) sp dp n)))).heap = H.setIfInBounds b (vp_cell cI (n2, .inl (va_cpy (gI h a) (gI h b) sp dp n))) := by rw [← hT]; rfl
  have oq : ∀ q : Nat, q ≠ b → (H.setIfInBounds b (vp_cell cI (n2, .inl (va_cpy (gI h a) (gI h b) sp dp n))))[q]? = H[q]? := fun q hq => by simp [Array.getElem?_setIfInBounds, Ne.symm hq]
  have hE' : ∀ q, q ≠ b → cellE cI cR (cpI h a sp b dp n) q = cellE cI cR h q := by
    intro q hq
    have e : gI (cpI h a sp b dp n) q = gI h q := by funext j; simp [gI, cpI, hq]
    have e2 : ∀ c, fv (cpI h a sp b dp n) c q = fv h c q := by intro c; funext j; unfold fv; rw [e]; rfl
    unfold cellE
    rw [e, show gK (cpI h a sp b dp n) q = gK h q from rfl, show gR (cpI h a sp b dp n) q = gR h q from rfl]
    simp only [e2]
  obtain ⟨t, a1, b1⟩ := k' _ _ (hR.put (h' := cpI h a sp b dp n) (by simp) oq rfl rfl (fun _ => rfl) hE' (by
      rw [cE_i (h := cpI h a sp b dp n) hkb]
      show (H.setIfInBounds b _)[b]? = some (vp_cell _ _)
      rw [Array.getElem?_setIfInBounds]
      simp only [hl', if_true]
      congr 4
      funext q
      by_cases hq : dp ≤ q ∧ q < dp + n
      · simp [va_cpy, gI, cpI, hq]
      · simp [va_cpy, gI, cpI, hq])) ⟨by simp; exact hS.1, fun q z1 z2 => by
      rw [oq q (fun e => z2 (by rw [e]; exact ib))]
      exact hS.2.1 q z1 z2, fun q hq => by
      rcases List.mem_append.mp hq with h | h
      · exact hS.2.2 q h
      · obtain ⟨z, -, hz⟩ := List.mem_map.mp h
        rw [← hz]
        exact ib⟩ _ hheap X'
  exact ⟨t, step t a1, b1⟩
end SOUND3
