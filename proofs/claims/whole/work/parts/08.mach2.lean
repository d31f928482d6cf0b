/-! the heap's rules -/
section SOUND2
variable {b0 : Nat} {D : va_G} {cI cR : ClassId} {xs : XS}
/-- what is known of a class by its number -/
theorem cls_ok {ci : Nat} {q : vw_C} (h : clsOf[ci]? = some q) : (∀ w ∈ u_ws q.1 q.2.1 q.2.2, w ∈ gtbl) ∧ (∀ k, k < q.2.2 → parseFieldDescriptor (q.2.1 k).2.2.1 = some (fty ci k)) ∧ (∀ a, a < q.2.2 → ∀ b, b < q.2.2 → a ≠ b → (q.2.1 a).2.1 ≠ (q.2.1 b).2.1) ∧ q.2.2 = cN ci := by
  match ci, h with
  | 0, h => cases h; exact ⟨fun w hw => inT_g (iX0 w hw), tyX0_ok, nmX0, rfl⟩
  | 1, h => cases h; exact ⟨fun w hw => inT_g (iX1 w hw), tyX1_ok, nmX1, rfl⟩
  | 2, h => cases h; exact ⟨fun w hw => inT_g (iX2 w hw), tyX2_ok, nmX2, rfl⟩
  | 3, h => cases h; exact ⟨fun w hw => inT_g (iX3 w hw), tyX3_ok, nmX3, rfl⟩
  | 4, h => cases h; exact ⟨fun w hw => inT_g (iX4 w hw), tyX4_ok, nmX4, rfl⟩
  | 5, h => cases h; exact ⟨fun w hw => inT_g (iX5 w hw), tyX5_ok, nmX5, rfl⟩
  | 6, h => cases h; exact ⟨fun w hw => inT_g (iX6 w hw), tyX6_ok, nmX6, rfl⟩
  | 7, h => cases h; exact ⟨fun w hw => inT_g (iX7 w hw), tyX7_ok, nmX7, rfl⟩
  | 8, h => cases h; exact ⟨fun w hw => inT_g (iX8 w hw), tyX8_ok, nmX8, rfl⟩
  | 9, h => cases h; exact ⟨fun w hw => inT_g (iX9 w hw), tyX9_ok, nmX9, rfl⟩
  | k + 10, h => simp [clsOf] at h
theorem cE_o {h : PH} {a ci : Nat} (hk : gK h a = (0, ci)) : cellE cI cR h a = .inr (ci, (List.range (cN ci)).map (fv h ci a)) := by unfold cellE; rw [hk]; rfl
theorem cE_i {h : PH} {a n : Nat} (hk : gK h a = (1, n)) : cellE cI cR h a = .inl (cI, n, .inl (gI h a)) := by unfold cellE; rw [hk]; rfl
theorem cE_r {h : PH} {a n : Nat} (hk : gK h a = (2, n)) : cellE cI cR h a = .inl (cR, n, .inr (.inr (.inr (.inr (gR h a))))) := by unfold cellE; rw [hk]; rfl
theorem lt3 {h : PH} {a x y : Nat} (hk : gK h a = (x, y)) (hx : x < 3 := by decide) : (gK h a).1 < 3 := by rw [hk]; exact hx
/-- one cell as a world -/
theorem one_P {a : Nat} {e : va_E} {H : Heap} (h : va_at D clsOf (a, e) H) : va_P D clsOf [(a, e)] H := by
  intro k q hk
  have hz : k < 1 := (List.getElem?_eq_some_iff.mp hk).1
  rw [show k = 0 by omega] at hk
  cases hk
  exact h
theorem fs_at {h : PH} {ci a k : Nat} (hk : k < cN ci) : ((List.range (cN ci)).map (fv h ci a))[k]? = some (fv h ci a k) := by
  rw [List.getElem?_map, List.getElem?_range hk]; rfl
theorem vV_at {h : PH} {ci a k : Nat} (hk : k < cN ci) : vp_V ((List.range (cN ci)).map (fv h ci a)) k = fv h ci a k := by
  unfold vp_V
  rw [List.getD_eq_getElem?_getD, fs_at hk]; rfl
/-- a cell is written, all else stays -/
theorem Rep.put {h h' : PH} {a : Nat} {H H1 : Heap} (hR : Rep b0 D cI cR xs h H) (hz : H1.size = H.size) (oq : ∀ q : Nat, q ≠ a → H1[q]? = H[q]?) (hN : gN h' = gN h) (hX : gX h' = gX h) (hK : ∀ b, gK h' b = gK h b) (hE : ∀ b, b ≠ a → cellE cI cR h' b = cellE cI cR h b) (ha : va_at D clsOf (a, cellE cI cR h' a) H1) : Rep b0 D cI cR xs h' H1 := by
  obtain ⟨h1, h2, h3, h4⟩ := hR
  refine ⟨by rw [hz, h1, hN], by rw [hN]; exact h2, hX.trans h3, fun b hb => ?_⟩
  rw [hK] at hb
  obtain ⟨i1, i2, i3⟩ := h4 b hb
  refine ⟨i1, by rw [hN]; exact i2, ?_⟩
  by_cases hba : b = a
  · rw [hba]; exact ha
  · rw [hE b hba]; exact i3.kept (oq b hba)
theorem k_get : r_get (Mach b0 D cI cR xs) := by
  intro d mc ms M pc ls st h Q idx ci k a hd hw hk kk p l e R s m args below meth c H locs cells slots lsA Qc mcT msT C hl hR hS g1 g2 g3 g4 hQ
  have k' := kk p l e R s m args below meth c H locs cells slots lsA Qc mcT msT C hl hR hS g1 g2 g3 g4 hQ
  obtain ⟨hx, hb, -, -, ho, ht, -, -, hK, -⟩ := C
  obtain ⟨q, hq, hkq, hw⟩ := hw
  obtain ⟨i1, i2, i3, i4⟩ := cls_ok hq
  have hat := (hR.2.2.2 a (lt3 hk)).2.2
  rw [cE_o hk] at hat
  exact va_get hx hb ht i1 ho hK (one_P hat) 0 rfl hq k hkq (ht _ (inT_g hw)) (fun x z => z) (fs_at (by rw [← i4]; exact hkq)) hd k'
theorem k_iald : r_iald (Mach b0 D cI cR xs) := by
  intro d mc ms M pc ls st h Q i a n hd hk hin kk p l e R s m args below meth c H locs cells slots lsA Qc mcT msT C hl hR hS g1 g2 g3 g4 hQ
  have k' := kk p l e R s m args below meth c H locs cells slots lsA Qc mcT msT C hl hR hS g1 g2 g3 g4 hQ
  obtain ⟨hx, hb, -, -, ho, ht, -, -, hK, -⟩ := C
  have hat := (hR.2.2.2 a (lt3 hk)).2.2
  rw [cE_i hk] at hat
  exact va_iald hx hb hK (one_P hat) 0 0 rfl rfl hin hd k'
theorem k_alen : r_alen (Mach b0 D cI cR xs) := by
  intro d mc ms M pc ls st h Q a n hd hk kk p l e R s m args below meth c H locs cells slots lsA Qc mcT msT C hl hR hS g1 g2 g3 g4 hQ
  have k' := kk p l e R s m args below meth c H locs cells slots lsA Qc mcT msT C hl hR hS g1 g2 g3 g4 hQ
  obtain ⟨hx, hb, -, -, ho, ht, -, -, hK, -⟩ := C
  have hat := (hR.2.2.2 a (lt3 hk)).2.2
  rw [cE_i hk] at hat
  exact va_alen hx hb hK (one_P hat) 0 0 rfl (ty := .int) rfl rfl hd k'
theorem k_aald : r_aald (Mach b0 D cI cR xs) := by
  intro d mc ms M pc ls st h Q i a n hd hk hin kk p l e R s m args below meth c H locs cells slots lsA Qc mcT msT C hl hR hS g1 g2 g3 g4 hQ
  have k' := kk p l e R s m args below meth c H locs cells slots lsA Qc mcT msT C hl hR hS g1 g2 g3 g4 hQ
  obtain ⟨hx, hb, -, -, ho, ht, -, -, hK, -⟩ := C
  have hat := (hR.2.2.2 a (lt3 hk)).2.2
  rw [cE_r hk] at hat
  exact va_aldq hx hb hK (one_P hat) 0 1 rfl (C := RX5) rfl hin hd k'
/-- a field is written -/
theorem pm_put {p : Program} {l : Launch} {e : Env} {R : Room} {s : State} {m : MethodId} {args : Array Value} {below : List Frame} {meth : Method} {c : Code} {H : Heap} {locs : List Loc} {cells slots : Nat} {Z : State → Prop} {cc : ByteArray} {pc : Nat} {ls : Array Slot} {rest : List Value} {own nm : String} {idx ci k a : Nat} {v : Value} {h h' : PH} {tys : List (ClassId × FieldType)}
    (hx : p.tables.exec = Jvm.exec) (hb : c.code = cc) (ho : s.vm.findClass own = some m.cls) (ht : ∀ w ∈ gtbl, w.before args s = true) (hnm : meth.name = nm) (hK : va_K D clsOf tys s) (hw : LinkP own nm idx ci k) (hk : gK h a = (0, ci)) (hn : narrow (fty ci k) v = v) (hfit : fits (fty ci k) v = true) (hR : Rep b0 D cI cR xs h H) (hS : va_S (fun q => b0 ≤ q) s.heap H locs)
    (hN : gN h' = gN h) (hX : gX h' = gX h) (hKK : ∀ b, gK h' b = gK h b) (hE : ∀ b, b ≠ a → cellE cI cR h' b = cellE cI cR h b) (hV : ∀ j, fv h' ci a j = if j = k then v else fv h ci a j)
    (hd : decode cc pc = .ok (.putfield idx, 3)) (kk : ∀ (H1 : Heap) (locs1 : List Loc), Rep b0 D cI cR xs h' H1 → va_S (fun q => b0 ≤ q) s.heap H1 locs1 → W p l e R s m args below meth c H1 locs1 cells slots Z (F0 m (pc + 3) ls rest)) : W p l e R s m args below meth c H locs cells slots Z (F0 m pc ls (v :: .ref a :: rest)) := by
  obtain ⟨q, hq, hkq, hlk, hfin⟩ := hw
  obtain ⟨C, T, N⟩ := q
  obtain ⟨i1, i2, i3, i4⟩ := cls_ok hq
  dsimp only at hkq hlk hfin i1 i2 i3 i4
  have hap := va_apart (own := own) ht i1 (fty ci) i2 i3 hK hq
  obtain ⟨ia, -, hat⟩ := hR.2.2.2 a (lt3 hk)
  rw [cE_o hk] at hat
  obtain ⟨r, h1, cell, q1, q2, q3, q4⟩ := hat
  have hr : r = (C, T, N) := Option.some.inj (h1.symm.trans hq)
  subst hr
  obtain ⟨hSl, hfc, kC, hkC, hkind⟩ := hK.1 ci _ hq
  obtain ⟨cf, kf, fi, f, hi, hsl⟩ := hSl k hkq
  have hst := (u_facts hfc hkC (u_lays ht i1 hkq) hi).1
  have fin : ∀ H' : Heap, H'[a]? = some (cell.setSlot f.slot v) → H'.size = H.size → (∀ q : Nat, q ≠ a → H'[q]? = H[q]?) → W p l e R s m args below meth c H' (locs ++ [⟨a, f.slot⟩]) cells slots Z (F0 m (pc + 3) ls rest) := by
    intro H' e1 e2 e3
    rw [hsl] at e1 ⊢
    refine kk H' _ (hR.put e2 e3 hN hX hKK hE ?_) (hS.put e2 e3 ia)
    rw [cE_o (by rw [hKK]; exact hk)]
    refine ⟨_, hq, t_OB.to (V := updV (vp_V ((List.range (cN ci)).map (fv h ci a))) k v) ⟨_, e1, q2, q3, t_set q4 hap hkq v⟩ (fun j hj => ?_)⟩
    have hj' : j < cN ci := by rw [← i4]; exact hj
    rw [vV_at hj', hV j]
    unfold updV
    by_cases hjk : j = k
    · simp [hjk]
    · simp [hjk, vV_at hj']
  have hlay := ht _ (i1 _ (u_in_lay hkq))
  unfold u_lay at hlay
  rcases hfin with hfin | ⟨hfin, hini, hdecl⟩
  · rw [if_neg (by rw [hfin]; decide)] at hlay
    have h6 := u_store hfc hkC hkind hlay hi (i2 k hkq) hn hfit
    exact W.putK hx hb (f := f) ⟨ho, ht _ (inT_g hlk), ⟨_, _, _, hi⟩, hst⟩ (by rw [q2]; exact h6) q1 q3 (by rw [hsl]; exact k2_hasslot (q4 k hkq)) rfl rfl hd fin
  · rw [if_pos hfin] at hlay
    have hcf : m.cls = cf := by
      obtain ⟨_, _, c', _, _, _, -, -, hf', -, -, -, hown2, -⟩ := Cond.laysFinal_spec hlay
      have e1 : c' = cf := by have := hi.symm.trans hf'; simp at this; exact this.1.symm
      rw [hdecl] at hown2
      rw [← e1]; exact Option.some.inj (ho.symm.trans hown2)
    have h6 := u_fits hfc hkC hkind (Or.inr hlay) hi (i2 k hkq) hn hfit
    exact W.putFinK hx hb ho (ht _ (inT_g hlk)) hi hst hcf (hnm.trans hini) (by rw [q2]; exact h6) q1 q3 (by rw [hsl]; exact k2_hasslot (q4 k hkq)) rfl rfl hd fin
theorem cE_sI {h : PH} {a k b : Nat} {x : Int32} (hb : b ≠ a) : cellE cI cR (sI h a k x) b = cellE cI cR h b := by
  have e : gI (sI h a k x) b = gI h b := by funext j; simp [gI, sI, hb]
  have e2 : ∀ c, fv (sI h a k x) c b = fv h c b := by intro c; funext j; unfold fv; rw [e]; rfl
  unfold cellE
  rw [e, show gK (sI h a k x) b = gK h b from rfl, show gR (sI h a k x) b = gR h b from rfl]
  simp only [e2]
theorem cE_sR {h : PH} {a k b : Nat} {x : Option Nat} (hb : b ≠ a) : cellE cI cR (sR h a k x) b = cellE cI cR h b := by
  have e : gR (sR h a k x) b = gR h b := by funext j; simp [gR, sR, hb]
  have e2 : ∀ c, fv (sR h a k x) c b = fv h c b := by intro c; funext j; unfold fv; rw [e]; rfl
  unfold cellE
  rw [e, show gK (sR h a k x) b = gK h b from rfl, show gI (sR h a k x) b = gI h b from rfl]
  simp only [e2]
theorem k_putI : r_putI (Mach b0 D cI cR xs) := by
  intro d mc ms M pc ls st h Q idx ci k a x hd hw hk hrf hn hfit kk p l e R s m args below meth c H locs cells slots lsA Qc mcT msT C hl hR hS g1 g2 g3 g4 hQ
  have k' := fun H1 locs1 hR1 hS1 => kk p l e R s m args below meth c H1 locs1 cells slots lsA Qc mcT msT C hl hR1 hS1 g1 g2 g3 g4 hQ
  obtain ⟨hx, hb, -, -, ho, ht, -, hnm, hK, -⟩ := C
  refine pm_put (h' := sI h a k x) hx hb ho ht hnm hK hw hk hn hfit hR hS rfl rfl (fun _ => rfl) (fun b hb => cE_sI hb) (fun j => ?_) hd k'
  unfold fv
  by_cases hj : j = k
  · subst hj; simp [hrf, gI, sI]
  · simp only [if_neg hj]
    rw [show gI (sI h a k x) a j = gI h a j by simp [gI, sI, hj]]; rfl
theorem k_putR : r_putR (Mach b0 D cI cR xs) := by
  intro d mc ms M pc ls st h Q idx ci k a x hd hw hk hrf kk p l e R s m args below meth c H locs cells slots lsA Qc mcT msT C hl hR hS g1 g2 g3 g4 hQ
  have k' := fun H1 locs1 hR1 hS1 => kk p l e R s m args below meth c H1 locs1 cells slots lsA Qc mcT msT C hl hR1 hS1 g1 g2 g3 g4 hQ
  obtain ⟨hx, hb, -, -, ho, ht, -, hnm, hK, -⟩ := C
  have hn : narrow (fty ci k) (va_rf x) = va_rf x := by
    unfold isRf at hrf
    split at hrf <;> first | (cases hrf; done) | skip
    all_goals (rename_i z; cases x <;> simp [va_rf, narrow, *])
  have hfit : fits (fty ci k) (va_rf x) = true := by
    unfold isRf at hrf
    split at hrf <;> first | (cases hrf; done) | skip
    all_goals (rename_i z; cases x <;> simp [va_rf, fits, *])
  refine pm_put (h' := sR h a k x) hx hb ho ht hnm hK hw hk hn hfit hR hS rfl rfl (fun _ => rfl) (fun b hb => cE_sR hb) (fun j => ?_) hd k'
  unfold fv
  by_cases hj : j = k
  · subst hj; simp [hrf, gR, sR]
  · simp only [if_neg hj]
    rw [show gR (sR h a k x) a j = gR h a j by simp [gR, sR, hj]]; rfl
theorem k_iast : r_iast (Mach b0 D cI cR xs) := by
  intro d mc ms M pc ls st h Q i a n x hd hk hin kk p l e R s m args below meth c H locs cells slots lsA Qc mcT msT C hl hR hS g1 g2 g3 g4 hQ
  have k' := fun H1 locs1 hR1 hS1 => kk p l e R s m args below meth c H1 locs1 cells slots lsA Qc mcT msT C hl hR1 hS1 g1 g2 g3 g4 hQ
  obtain ⟨hx, hb, -, -, ho, ht, -, hnm, hK, -⟩ := C
  obtain ⟨ia, -, hat⟩ := hR.2.2.2 a (lt3 hk)
  rw [cE_i hk] at hat
  refine W.iast hx hb hat ((hK.2 0 _ rfl).1 n (fun j => .int (gI h a j))) (fun q => by cases q) (by show ¬ (i < 0 ∨ (arrV _ _ _).slots.size ≤ _); rw [arrV_size]; exact hin) rfl rfl hd fun H1 e1 z oq => ?_
  refine k' H1 _ (hR.put z oq rfl rfl (fun _ => rfl) (fun b hb => cE_sI hb) ?_) (hS.put z oq ia)
  rw [cE_i (h := sI h a i.toNatClampNeg x) hk]
  show H1[a]? = some (vp_cell _ _)
  rw [e1, vp_cell_i, vp_cell_i, arrV_store]
  congr 2
  funext q
  by_cases hq : q = i.toNatClampNeg
  · subst hq
    simp [updV, gI, sI]
  · simp [updV, gI, sI, hq]
theorem k_aast : r_aast (Mach b0 D cI cR xs) := by
  intro d mc ms M pc ls st h Q i a n b hd hk hkb hin kk p l e R s m args below meth c H locs cells slots lsA Qc mcT msT C hl hR hS g1 g2 g3 g4 hQ
  have k' := fun H1 locs1 hR1 hS1 => kk p l e R s m args below meth c H1 locs1 cells slots lsA Qc mcT msT C hl hR1 hS1 g1 g2 g3 g4 hQ
  obtain ⟨hx, hb, -, -, ho, ht, -, hnm, hK, -⟩ := C
  obtain ⟨ia, -, hat⟩ := hR.2.2.2 a (lt3 hk)
  rw [cE_r hk] at hat
  have hatb := (hR.2.2.2 b (lt3 hkb)).2.2
  rw [cE_o hkb] at hatb
  have hlt : i.toNatClampNeg < n := Nat.not_le.mp fun q => hin (Or.inr q)
  have h0 : ¬ i < 0 := fun q => hin (Or.inl q)
  obtain ⟨r', hr', cellV, v1, v2, v3, -⟩ := hatb
  have hcls := (hK.1 5 (RX5, TX5, 20) rfl).2
  obtain ⟨kA, comp, k1, k2, k3, -⟩ := (hK.2 1 _ rfl).2
  have hcomp : comp = D.1 5 := Option.some.inj (k3.symm.trans hcls.1)
  subst hcomp
  obtain ⟨kC, hkC, -⟩ := hcls.2
  refine W.aast hx hb hat (fun q h => by cases h) (fun h => by cases h) k1 k2 rfl hkC ⟨h0, by show _ < (arrV _ _ _).slots.size; rw [arrV_size]; exact hlt⟩ v1 (fun q h => by rw [v3] at h; cases h) (by rw [v2]; exact hkC) (by rw [v2]; exact va_assign hcls) rfl rfl hd fun H1 e1 z oq => ?_
  refine k' H1 _ (hR.put z oq rfl rfl (fun _ => rfl) (fun b hb => cE_sR hb) ?_) (hS.put z oq ia)
  rw [cE_r (h := sR h a i.toNatClampNeg (some b)) hk]
  show H1[a]? = some (vp_cell _ _)
  rw [e1, vp_cell_q, vp_cell_q, arrV_store]
  congr 2
  funext q
  by_cases hq : q = i.toNatClampNeg
  · subst hq
    simp [updV, gR, sR, va_rf]
  · simp [updV, gR, sR, hq]
end SOUND2
