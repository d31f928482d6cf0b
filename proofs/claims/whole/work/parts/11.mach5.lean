/-! calls, returns, the text of words -/
section SOUND4
variable {b0 : Nat} {D : va_G} {cI cR : ClassId} {xs : XS}
theorem Ext.same {u U : State} (hv : U.vm = u.vm) (hh : U.heap = u.heap) (h : Ext b0 xs u) : Ext b0 xs U := by
  obtain ⟨h1, h2, h3, h4, h5, h6, h7, h8, h9⟩ := h
  have al : u.vm.Alike U.vm := by rw [hv]; exact Vm.Alike.refl _
  refine ⟨h1.moved al, h2.same hv, ?_, ?_, ?_, fun q hq => (h6 q hq).same rfl hv.symm, ?_, by rw [hh]; exact h8, h9⟩
  · rw [hh]; exact h3.moved al
  · rw [hh]; exact h4.moved al
  · rw [hh]
    rcases h5 with h5 | ⟨t, h5⟩
    · exact Or.inl (h5.moved al)
    · exact Or.inr ⟨t, h5.moved al⟩
  · rw [hh]; exact h7.moved al
theorem Ext.move {s U : State} (hW : s.WarmedH U.vm) (hz : s.heap.size ≤ U.heap.size) (hq : ∀ a : Nat, a < s.heap.size → ¬ b0 ≤ a → U.heap[a]? = s.heap[a]?) (h : Ext b0 xs s) : Ext b0 xs U := by
  obtain ⟨h1, h2, h3, h4, h5, h6, h7, h8, h9⟩ := h
  refine ⟨h1.moved hW.alike, h2.warm hW, (h3.moved hW.alike).kept hq, (h4.moved hW.alike).kept hq, ?_, fun q hq => (h6 q hq).warmM hW, (h7.moved hW.alike).kept (hq _ h8 h9), Nat.lt_of_lt_of_le h8 hz, h9⟩
  rcases h5 with h5 | ⟨t, h5⟩
  · exact Or.inl ((h5.moved hW.alike).kept hq)
  · exact Or.inr ⟨t, (h5.moved hW.alike).kept hq⟩
/-- a method's start and end -/
def PM (b0 : Nat) (D : va_G) (cI cR : ClassId) (xs : XS) (h : PH) (U : State) : Prop := va_K D clsOf [(cI, .int), (cR, .object RX5)] U ∧ Ext b0 xs U ∧ Rep b0 D cI cR xs h U.heap ∧ b0 ≤ U.heap.size
def QM (b0 : Nat) (D : va_G) (cI cR : ClassId) (xs : XS) (Q : Option Value → PH → Prop) : Array Value → State → Outcome → State → Prop := fun _ st oc t => (∃ v h', oc = .returned v ∧ Q v h' ∧ Rep b0 D cI cR xs h' t.heap) ∧ va_F (fun q => b0 ≤ q) st t
def rmOf (d mc ms : Nat) : Room := { frames := d, cells := mc, slots := ms, locals := 64 * d }
theorem PM.blind {h : PH} {As : List Value} : FrameBlind (va_Pc As (PM b0 D cI cR xs h)) := by
  intro a U g mk q
  obtain ⟨q1, q2, q3, q4, q5⟩ := q
  exact ⟨q1, va_K.moved (u := U) (U := U.calling g mk a) (Vm.Alike.refl U.vm) q2, q3.same rfl rfl, q4, q5⟩
theorem met_of {l : Launch} {d mc ms : Nat} {M : MT} {As : List Value} {h : PH} {Q : Option Value → PH → Prop} (hM : Mach b0 D cI cR xs d mc ms M 0 (lv_args 0 As) [] h Q) (hpl : plainName M.2.1.cls = true) (hown : M.1 = M.2.1.cls) (hn : (lg_sl As).length ≤ M.2.2.2.1) : Met l M.2.1 (Cond.code M.2.1 M.2.2.1 M.2.2.2.1 M.2.2.2.2 :: gtbl) (rmOf d mc ms) (va_Pc As (PM b0 D cI cR xs h)) (QM b0 D cI cR xs Q) mc ms (fun q => b0 ≤ q) := by
  refine Met.ofW (cc := M.2.2.1) (maxL := M.2.2.2.1) (ret := M.2.2.2.2) hpl rfl ?_
  intro p e s m args below meth c s₁ B hml hv
  obtain ⟨rfl, hK, hE, hR, hb0⟩ := hv
  have hts := atoms_spec (ws := Cond.code M.2.1 M.2.2.1 M.2.2.2.1 M.2.2.2.2 :: gtbl) B.pre
  have ho : s.vm.findClass M.1 = some m.cls := by rw [hown]; exact findClass_of_methodNamed B.named
  have hl := lv_entry As (n := M.2.2.2.1) hn
  rw [lg_entry_eq]
  generalize (lg_sl As ++ List.replicate (M.2.2.2.1 - (lg_sl As).length) Slot.unset).toArray = lsA at hl ⊢
  refine hM p l e (rmOf d mc ms) s m _ below meth c s.heap [] 0 0 lsA (MQ below (QM b0 D cI cR xs Q) _ s mc ms (fun q => b0 ≤ q)) mc ms ⟨B.exec, B.bytes, B.returns, hml, ho, fun w hw => hts w (List.mem_cons_of_mem _ hw), B.notSynchronized, (name_of_methodNamed B.named B.method).1, hK, hE, Nat.le_refl _, Nat.le_refl _, hb0⟩ hl hR va_S.rf (by omega) (by omega) (Nat.le_refl _) (Nat.le_refl _) ?_
  intro v h' H' locs' lsA' pc' hq hr hS hw
  have hend : ∀ t : State, t.heap = H' → s.WarmedH t.vm → QM b0 D cI cR xs Q As.toArray s (.returned v) t := fun t e1 _ => ⟨⟨v, h', rfl, hq, by rw [e1]; exact hr⟩, hS.F e1⟩
  have hlocks := B.notSynchronized
  cases v with
  | none => exact W.vret B.exec B.bytes (B.returns.trans hw.2) hend hS.2.2 hw.1 (hlocks := hlocks)
  | some w =>
    obtain ⟨i, hd, hi, ho⟩ := hw
    cases w with
    | int x =>
      obtain ⟨ty, e1, e2⟩ := ho
      have hi : i = .ireturn := hi
      subst hi
      exact W.zret B.exec B.bytes (B.returns.trans e1) e2 hend hS.2.2 hd (hlocks := hlocks)
    | long x =>
      have hi : i = .lreturn := hi
      subst hi
      exact W.lret B.exec B.bytes (B.returns.trans ho) hend hS.2.2 hd (hlocks := hlocks)
    | _ => exact ho.elim
theorem pm_after {p : Program} {l : Launch} {e : Env} {R : Room} {s : State} {m : MethodId} {args : Array Value} {below : List Frame} {meth : Method} {c : Code} {H : Heap} {locs : List Loc} {cells slots mc1 ms1 pc : Nat} {Z : State → Prop} {lsA : Array Slot} {st0 rest : List Value} {a : Array Value} {Q : Option Value → PH → Prop}
    (hr : va_Run p l e R s m args below meth c H locs cells slots mc1 ms1 (F0 m pc lsA st0) rest (QM b0 D cI cR xs Q a) (fun q => b0 ≤ q)) (hS : va_S (fun q => b0 ≤ q) s.heap H locs)
    (kk : ∀ v h' H1 locs1, Q v h' → Rep b0 D cI cR xs h' H1 → va_S (fun q => b0 ≤ q) s.heap H1 locs1 → W p l e R s m args below meth c H1 locs1 (cells + mc1) (slots + ms1) Z (F0 m (pc + 3) lsA (v.toList ++ rest))) : W p l e R s m args below meth c H locs cells slots Z (F0 m pc lsA st0) := by
  intro T hT X
  obtain ⟨v, st₀, t, T', L, h0, X', hL, e1, e2, ⟨⟨v', h', hv, hp, hb⟩, hz, hk⟩, st⟩ := hr T hT X
  cases hv
  rw [h0] at hz hk
  obtain ⟨t2, a1, b1⟩ := kk v h' T'.heap (locs ++ L) hp (by rw [e1]; exact hb)
    ⟨Nat.le_trans hS.1 (by rw [e1]; exact hz), fun q h1 h2 => by rw [e1, hk q (Nat.lt_of_lt_of_le h1 hS.1) h2]; exact hS.2.1 q h1 h2, fun q hq => by
      rcases List.mem_append.mp hq with h | h
      · exact hS.2.2 q h
      · exact hL q h⟩ T' rfl X'
  exact ⟨t2, st t2 a1, b1⟩
theorem good_g {M : MT} (h : inT (.code M.2.1 M.2.2.1 M.2.2.2.1 M.2.2.2.2)) : GoodIn gtbl (Cond.code M.2.1 M.2.2.1 M.2.2.2.1 M.2.2.2.2 :: gtbl) := by
  intro w hw
  rcases List.mem_cons.mp hw with rfl | hw
  · exact ⟨inT_g h, good_of_word h.2⟩
  · exact ⟨hw, good_of_word (List.mem_filter.mp hw).2⟩
theorem k_callV0 {d mc ms : Nat} {M M' : MT} {pc : Nat} {ls : List (Nat × Value)} {h : PH} {Q Qm : Option Value → PH → Prop} {idx mc1 ms1 mc2 ms2 a : Nat} {As rest : List Value} (hd : decode M.2.2.1 pc = .ok (.invokevirtual idx, 3)) (hw : CkV M.1 idx M' As.length) (hr : (rest.map fun v => v.category).sum ≤ 8) (hn : (lg_sl (.ref a :: As)).length ≤ M'.2.2.2.1) (hm1 : mc1 + mc2 ≤ mc) (hm2 : ms1 + ms2 ≤ ms)
    (hcal : Mach b0 D cI cR xs d mc1 ms1 M' 0 (lv_args 0 (.ref a :: As)) [] h Qm) (kk : ∀ v h', Qm v h' → Mach b0 D cI cR xs (d + 1) mc2 ms2 M (pc + 3) ls (v.toList ++ rest) h' Q)
    (hrec : ∀ (s : State) (H : Heap) (locs : List Loc), va_K D clsOf [(cI, .int), (cR, .object RX5)] s → Ext b0 xs s → Rep b0 D cI cR xs h H → va_S (fun q => b0 ≤ q) s.heap H locs → ∃ cell : Cell, H[a]? = some cell ∧ cell.vm.isStatics = false ∧ s.vm.findClass M'.2.1.cls = some cell.cls) : Mach b0 D cI cR xs (d + 1) mc ms M pc ls (As.reverse ++ .ref a :: rest) h Q := by
  intro p l e R s m args below meth c H locs cells slots lsA Qc mcT msT C hl hR hS g1 g2 g3 g4 hQ
  have k' := fun v h' H1 locs1 hq hR1 hS1 => kk v h' hq p l e R s m args below meth c H1 locs1 (cells + mc1) (slots + ms1) lsA Qc mcT msT C hl hR1 hS1 (by omega) (by omega) g3 g4 hQ
  obtain ⟨hx, hb, -, hml, ho, ht, -, hnm, hK, hE, f1, f2, hb0⟩ := C
  obtain ⟨⟨wl, wi, wc, wo, wd, wp, wm⟩, w1, w2⟩ := hw
  have hM := met_of (l := l) hcal wp wo hn
  have hpre : PreV s H M'.2.1.cls a (va_Pc (.ref a :: As) (PM b0 D cI cR xs h)) As := by
    refine ⟨PM.blind, hrec s H locs hK hE hR hS, fun U hU hW => ⟨rfl, va_K.moved hW.alike hK, hE.move hW (by rw [hU]; exact hS.1) (fun q z1 z2 => ?_), by rw [hU]; exact hR, by rw [hU]; exact Nat.le_trans hb0 hS.1⟩⟩
    rw [hU]; exact hS.2.1 q z1 z2
  have hroom : (rmOf d mc1 ms1).frames + 1 ≤ R.frames ∧ 8 + (M'.2.2.2.1 + 11) + (rmOf d mc1 ms1).locals ≤ R.locals := ⟨f1, by show 8 + (M'.2.2.2.1 + 11) + 64 * d ≤ _; omega⟩
  rcases wl with wl | wl
  · exact pm_after (va_runV (g := F0 m pc lsA (As.reverse ++ .ref a :: rest)) ⟨hx, hb, hml, ho, ht⟩ hM ⟨callB_of As.length ht (good_g wc) rfl rfl rfl (ht _ (inT_g wi)) (ht _ (inT_g wl)) wd hroom, ht _ (inT_g w1), ht _ (inT_g w2)⟩ hpre rfl rfl hl.1 rfl (lv_room hr) hd ⟨by omega, by omega⟩) hS k'
  · exact pm_after (va_runVN (g := F0 m pc lsA (As.reverse ++ .ref a :: rest)) ⟨hx, hb, hml, ho, ht⟩ hM ⟨va_cnB As.length ht (good_g wc) rfl rfl rfl (hE.2.2.2.2.2.1 _ wl) (ht _ (inT_g wi)) wd hroom, ht _ (inT_g w1), ht _ (inT_g w2)⟩ hpre rfl rfl hl.1 rfl (lv_room hr) hd ⟨by omega, by omega⟩) hS k'
theorem k_callV : r_callV (Mach b0 D cI cR xs) := by
  intro d mc ms M pc ls h Q idx M' mc1 ms1 mc2 ms2 a ci As rest Qm q hd hw hq hqc hk hr hn hm1 hm2 hcal kk
  refine k_callV0 hd hw hr hn hm1 hm2 hcal kk (fun s H locs hK hE hR hS => ?_)
  have hat := (hR.2.2.2 a (lt3 hk)).2.2
  rw [cE_o hk] at hat
  have := va_recv hK (one_P hat) hq (q0 := 0) rfl
  rw [hqc, hw.1.2.2.2.1] at this
  exact this
theorem k_callX : r_callX (Mach b0 D cI cR xs) := by
  intro d mc ms M pc ls h Q idx M' mc1 ms1 mc2 ms2 a As rest Qm hd hw hq ha hr hn hm1 hm2 hcal kk
  refine k_callV0 hd hw hr hn hm1 hm2 hcal kk (fun s H locs hK hE hR hS => ?_)
  have := vk_recv (i := 0) hE.2.2.1 (by decide) hS
  rw [ha, hR.2.2.1, ← hw.1.2.2.2.1, hq]
  exact this
theorem k_callS : r_callS (Mach b0 D cI cR xs) := by
  intro d mc ms M pc ls h Q idx M' mc1 ms1 mc2 ms2 As rest Qm hd hw hr hn hm1 hm2 hcal kk p l e R s m args below meth c H locs cells slots lsA Qc mcT msT C hl hR hS g1 g2 g3 g4 hQ
  have k' := fun v h' H1 locs1 hq hR1 hS1 => kk v h' hq p l e R s m args below meth c H1 locs1 (cells + mc1) (slots + ms1) lsA Qc mcT msT C hl hR1 hS1 (by omega) (by omega) g3 g4 hQ
  obtain ⟨hx, hb, -, hml, ho, ht, -, hnm, hK, hE, f1, f2, hb0⟩ := C
  obtain ⟨⟨wl, wi, wc, wo, wd, wp, wm⟩, w1⟩ := hw
  have hM := met_of (l := l) hcal wp wo hn
  have hpre : PreS s H (va_Pc As (PM b0 D cI cR xs h)) As := by
    refine ⟨PM.blind, fun U hU hW => ⟨rfl, va_K.moved hW.alike hK, hE.move hW (by rw [hU]; exact hS.1) (fun q z1 z2 => ?_), by rw [hU]; exact hR, by rw [hU]; exact Nat.le_trans hb0 hS.1⟩⟩
    rw [hU]; exact hS.2.1 q z1 z2
  have hroom : (rmOf d mc1 ms1).frames + 1 ≤ R.frames ∧ 8 + (M'.2.2.2.1 + 11) + (rmOf d mc1 ms1).locals ≤ R.locals := ⟨f1, by show 8 + (M'.2.2.2.1 + 11) + 64 * d ≤ _; omega⟩
  rcases wl with wl | wl
  · exact pm_after (va_runS (g := F0 m pc lsA (As.reverse ++ rest)) ⟨hx, hb, hml, ho, ht⟩ hM ⟨callB_of As.length ht (good_g wc) rfl rfl rfl (ht _ (inT_g wi)) (ht _ (inT_g wl)) wd hroom, ht _ (inT_g w1)⟩ hpre rfl rfl hl.1 rfl (lv_room hr) hd ⟨by omega, by omega⟩) hS k'
  · exact pm_after (va_runSN (g := F0 m pc lsA (As.reverse ++ rest)) ⟨hx, hb, hml, ho, ht⟩ hM ⟨va_cnB As.length ht (good_g wc) rfl rfl rfl (hE.2.2.2.2.2.1 _ wl) (ht _ (inT_g wi)) wd hroom, ht _ (inT_g w1), trivial⟩ hpre rfl rfl hl.1 rfl (lv_room hr) hd ⟨by omega, by omega⟩) hS k'
theorem k_callI : r_callI (Mach b0 D cI cR xs) := by
  intro d mc ms M pc ls h Q idx M' mc1 ms1 mc2 ms2 a As rest Qm hd hw hr hn hm1 hm2 hcal kk p l e R s m args below meth c H locs cells slots lsA Qc mcT msT C hl hR hS g1 g2 g3 g4 hQ
  have k' := fun v h' H1 locs1 hq hR1 hS1 => kk v h' hq p l e R s m args below meth c H1 locs1 (cells + mc1) (slots + ms1) lsA Qc mcT msT C hl hR1 hS1 (by omega) (by omega) g3 g4 hQ
  obtain ⟨hx, hb, -, hml, ho, ht, -, hnm, hK, hE, f1, f2, hb0⟩ := C
  obtain ⟨⟨wl, wi, wc, wo, wd, wp, wm⟩, w1, w2, w3⟩ := hw
  have hM := met_of (l := l) hcal wp wo hn
  have hpre : PreS s H (va_Pc (.ref a :: As) (PM b0 D cI cR xs h)) (.ref a :: As) := by
    refine ⟨PM.blind, fun U hU hW => ⟨rfl, va_K.moved hW.alike hK, hE.move hW (by rw [hU]; exact hS.1) (fun q z1 z2 => ?_), by rw [hU]; exact hR, by rw [hU]; exact Nat.le_trans hb0 hS.1⟩⟩
    rw [hU]; exact hS.2.1 q z1 z2
  have hroom : (rmOf d mc1 ms1).frames + 1 ≤ R.frames ∧ 8 + (M'.2.2.2.1 + 11) + (rmOf d mc1 ms1).locals ≤ R.locals := ⟨f1, by show 8 + (M'.2.2.2.1 + 11) + 64 * d ≤ _; omega⟩
  rw [w3] at hM wc
  have hG : GoodIn gtbl (Cond.code M'.2.1 M'.2.2.1 M'.2.2.2.1 none :: gtbl) := by have := good_g (M := (M'.1, M'.2.1, M'.2.2.1, M'.2.2.2.1, none)) wc; exact this
  rcases wl with wl | wl
  · exact pm_after (va_runI (g := F0 m pc lsA (As.reverse ++ .ref a :: rest)) ⟨hx, hb, hml, ho, ht⟩ hM ⟨callB_of As.length ht hG rfl rfl rfl (ht _ (inT_g wi)) (ht _ (inT_g wl)) wd hroom, w1, ht _ (inT_g w2)⟩ hpre rfl rfl hl.1 rfl (lv_room hr) hd ⟨by omega, by omega⟩) hS k'
  · exact pm_after (va_runIN (g := F0 m pc lsA (As.reverse ++ .ref a :: rest)) ⟨hx, hb, hml, ho, ht⟩ hM ⟨va_cnB As.length ht hG rfl rfl rfl (hE.2.2.2.2.2.1 _ wl) (ht _ (inT_g wi)) wd hroom, w1, ht _ (inT_g w2)⟩ hpre rfl rfl hl.1 rfl (lv_room hr) hd ⟨by omega, by omega⟩) hS k'
theorem k_ret : r_ret (Mach b0 D cI cR xs) := by
  intro d mc ms M pc ls h Q i v hd hi ho hq p l e R s m args below meth c H locs cells slots lsA Z mcT msT C hl hR hS g1 g2 g3 g4 hQ
  refine W.widen (k := mcT) (n := msT) (by omega) (by omega) ?_
  exact hQ (some v) h H locs lsA pc hq hR hS ⟨i, hd, hi, ho⟩
theorem k_retv : r_retv (Mach b0 D cI cR xs) := by
  intro d mc ms M pc ls h Q hd ho hq p l e R s m args below meth c H locs cells slots lsA Z mcT msT C hl hR hS g1 g2 g3 g4 hQ
  refine W.widen (k := mcT) (n := msT) (by omega) (by omega) ?_
  exact hQ none h H locs lsA pc hq hR hS ⟨hd, ho⟩
theorem k_ldcS : r_ldcS (Mach b0 D cI cR xs) := by
  intro d mc ms M pc ls st h Q hM hd kk p l e R s m args below meth c H locs cells slots lsA Qc mcT msT C hl hR hS g1 g2 g3 g4 hQ
  have k' := kk p l e R s m args below meth c H locs cells slots lsA Qc mcT msT C hl hR hS g1 g2 g3 g4 hQ
  obtain ⟨hx, hb, -, hml, ho, ht, -, hnm, hK, hE, f1, f2, -⟩ := C
  rw [hM] at ho
  rw [hR.2.2.1] at k'
  exact va_ldcS hx hb ho hE.2.1 hd k'
theorem k_getXv : r_getXv (Mach b0 D cI cR xs) := by
  intro d mc ms M pc ls st h Q idx a hd hw ha kk p l e R s m args below meth c H locs cells slots lsA Qc mcT msT C hl hR hS g1 g2 g3 g4 hQ
  have k' := kk p l e R s m args below meth c H locs cells slots lsA Qc mcT msT C hl hR hS g1 g2 g3 g4 hQ
  obtain ⟨hx, hb, -, hml, ho, ht, -, hnm, hK, hE, f1, f2, -⟩ := C
  rw [hR.2.2.1] at k'
  rw [ha, hR.2.2.1]
  exact vk_getf hx hb (hE.2.2.1.1 0 (by decide)).2.2.1 hS ho (ht _ (inT_g hw)) (fun x z => z) hd k'
theorem k_getXc : r_getXc (Mach b0 D cI cR xs) := by
  intro d mc ms M pc ls st h Q idx a hd hw ha kk p l e R s m args below meth c H locs cells slots lsA Qc mcT msT C hl hR hS g1 g2 g3 g4 hQ
  have k' := kk p l e R s m args below meth c H locs cells slots lsA Qc mcT msT C hl hR hS g1 g2 g3 g4 hQ
  obtain ⟨hx, hb, -, hml, ho, ht, -, hnm, hK, hE, f1, f2, -⟩ := C
  rw [ha, hR.2.2.1]
  exact vk_getf hx hb (hE.2.2.1.1 0 (by decide)).2.1 hS ho (ht _ (inT_g hw)) (fun x z => z) hd k'
theorem k_gets : r_gets (Mach b0 D cI cR xs) := by
  intro d mc ms M pc ls st h Q idx hd hw kk p l e R s m args below meth c H locs cells slots lsA Qc mcT msT C hl hR hS g1 g2 g3 g4 hQ
  have k' := kk p l e R s m args below meth c H locs cells slots lsA Qc mcT msT C hl hR hS g1 g2 g3 g4 hQ
  obtain ⟨hx, hb, -, hml, ho, ht, -, hnm, hK, hE, f1, f2, -⟩ := C
  exact va_gets hx hb hE.2.2.2.1 hS ho (ht _ (inT_g hw)) (fun x z => z) hd k'
theorem k_getF : r_getF (Mach b0 D cI cR xs) := by
  intro d mc ms M pc ls st h Q idx hd hw kk p l e R s m args below meth c H locs cells slots lsA Qc mcT msT C hl hR hS g1 g2 g3 g4 hQ
  have k' := fun o => kk o p l e R s m args below meth c H locs cells slots lsA Qc mcT msT C hl hR hS g1 g2 g3 g4 hQ
  obtain ⟨hx, hb, -, hml, ho, ht, -, hnm, hK, hE, f1, f2, -⟩ := C
  rcases hE.2.2.2.2.1 with h5 | ⟨t, h5⟩
  · exact va_gets hx hb h5 hS ho (ht _ (inT_g hw)) (fun x z => z) hd (k' none)
  · exact va_gets hx hb h5 hS ho (ht _ (inT_g hw)) (fun x z => z) hd (k' (some t))
theorem k_alenX : r_alenX (Mach b0 D cI cR xs) := by
  intro d mc ms M pc ls st h Q a hd ha kk p l e R s m args below meth c H locs cells slots lsA Qc mcT msT C hl hR hS g1 g2 g3 g4 hQ
  have k' := kk p l e R s m args below meth c H locs cells slots lsA Qc mcT msT C hl hR hS g1 g2 g3 g4 hQ
  obtain ⟨hx, hb, -, hml, ho, ht, -, hnm, hK, hE, f1, f2, -⟩ := C
  rw [ha, hR.2.2.1]
  exact va_tlen hx hb (hE.2.2.1.1 0 (by decide)).2.2.2 hS rfl hd k'
theorem k_bald : r_bald (Mach b0 D cI cR xs) := by
  intro d mc ms M pc ls st h Q i a hd ha hin kk p l e R s m args below meth c H locs cells slots lsA Qc mcT msT C hl hR hS g1 g2 g3 g4 hQ
  have k' := kk p l e R s m args below meth c H locs cells slots lsA Qc mcT msT C hl hR hS g1 g2 g3 g4 hQ
  obtain ⟨hx, hb, -, hml, ho, ht, -, hnm, hK, hE, f1, f2, -⟩ := C
  rw [ha, hR.2.2.1]
  exact va_tb hx hb (hE.2.2.1.1 0 (by decide)).2.2.2 hS hin rfl hd k'
theorem k_sld : r_sld (Mach b0 D cI cR xs) := by
  intro d mc ms M pc ls st h Q i a hd ha hin kk p l e R s m args below meth c H locs cells slots lsA Qc mcT msT C hl hR hS g1 g2 g3 g4 hQ
  have k' := kk p l e R s m args below meth c H locs cells slots lsA Qc mcT msT C hl hR hS g1 g2 g3 g4 hQ
  obtain ⟨hx, hb, -, hml, ho, ht, -, hnm, hK, hE, f1, f2, -⟩ := C
  obtain ⟨-, -, -, -, -, -, h7, h8, h9⟩ := hE
  rw [hR.2.2.1] at k' hin
  rw [ha, hR.2.2.1]
  exact va_sld hx hb h7 h8 h9 hS hin hd k'
theorem k_slen : r_slen (Mach b0 D cI cR xs) := by
  intro d mc ms M pc ls st h Q a hd ha kk p l e R s m args below meth c H locs cells slots lsA Qc mcT msT C hl hR hS g1 g2 g3 g4 hQ
  have k' := kk p l e R s m args below meth c H locs cells slots lsA Qc mcT msT C hl hR hS g1 g2 g3 g4 hQ
  obtain ⟨hx, hb, -, hml, ho, ht, -, hnm, hK, hE, f1, f2, -⟩ := C
  obtain ⟨-, -, -, -, -, -, h7, h8, h9⟩ := hE
  rw [hR.2.2.1] at k'
  rw [ha, hR.2.2.1]
  exact va_slen hx hb h7 h8 h9 hS hd k'
theorem sound : Rules (Mach b0 D cI cR xs) := ⟨k_sub, k_op, k_cst, k_ldc, k_ldl, k_load, k_store, k_iinc, k_icmp, k_if, k_goto, k_null, k_nonnull, k_table, k_div, k_rem, k_ldiv, k_get, k_putI, k_putR, k_iald, k_iast, k_alen, k_aald, k_aast, k_new, k_newa, k_newr, k_obj, k_max, k_min, k_copy, k_callV, k_callS, k_callI, k_ret, k_retv, k_ldcS, k_getXv, k_getXc, k_gets, k_getF, k_alenX, k_bald, k_callX, k_sld, k_slen⟩
end SOUND4
