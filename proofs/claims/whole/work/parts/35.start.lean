/-! THE CLAIM OUT OF ONE WALK OF THE LAW'S BODY. Your part is whole_start (and what it stands on); all else here is the same for every law, but numbers. -/
def R_law : String := "TearCustomsLaw"
def lw_P (b : Addr) (xs : List Int32) (args : Array Value) (s : State) : Prop := args = #[.ref b] ∧ s.IntsAt b xs ∧ xs.length ≤ 3072 ∧ (Jvm.Cond.and given_1 narrow_1).before args s = true
def lw_Q (_ : Array Value) (s : State) (o : Outcome) (t : State) : Prop := o = .returned (some (.int 1)) ∧ Framed s o t [] 600000 7302250
def lw_Z (below : List Frame) (a : Array Value) (s : State) : State → Prop := fun t => ∃ o, t.status = .running ∧ Ended t below o ∧ lw_Q a s o t
/-- the law's own end, with 1 on the stack, nothing written that was there before, its room as the claim has it -/
theorem lw_ret {p : Program} {l : Launch} {e : Env} {s : State} {m : MethodId} {below : List Frame} {meth : Method} {c : Code} {b : Nat} (hx : p.tables.exec = Jvm.exec) (hb : c.code = code) (hr : meth.sig.returnType = ret) (hlocks : meth.locks = false) {pc : Nat} {H : Heap} {ls : Array Slot} (hdg : decode code pc = .ok (.ireturn, 1)) : W p l e room_1 s m #[Value.ref b] below meth c H [] 600000 7302250 (lw_Z below #[Value.ref b] s) (F0 m pc ls [.int 1]) := by
  intro T hT X
  obtain ⟨fs, hret, hrun, hended, hW, hframe⟩ := X.leave (v := some (.int 1)) (hlocks := hlocks) (fun h => by rw [hr] at h; cases h)
  have hmeth' : T.vm.method? m = some meth := X.method'
  refine ⟨T.setFrames fs, ?_, .returned (some (.int 1)), hrun, hended, rfl, ⟨_, rfl⟩, hW, hframe⟩
  jvm_step X.here [X.here.top, hx, hb, hdg, hmeth', hr, ret, narrow_b1]
  (try refine ⟨rfl, ?_⟩); (try refine ⟨rfl, ?_⟩)
  first | (intro acts; rw [hret _ acts rfl rfl rfl]) | rw [hret _ _ rfl rfl rfl]
  exact Steps.refl _
/-- what holds at the law's entry: the machine, the code, the tables' words (any of lw_tbl by 'hts w (by decide +kernel)'), the script of L ints xs at the cell b, what the Statement gives of the start (any of its parts by flat_of_before) -/
def lw_At (p : Program) (s : State) (m : MethodId) (meth : Method) (c : Code) (b L : Nat) (xs : Nat → Int32) : Prop :=
  p.tables.exec = Jvm.exec ∧ c.code = code ∧ meth.sig.returnType = ret ∧ c.maxLocals = 4 ∧ s.vm.findClass R_law = some m.cls ∧ (∀ w ∈ lw_tbl, w.before #[Value.ref b] s = true) ∧ va_X b L xs s s.heap ∧ b < s.heap.size ∧ meth.locks = false ∧ (Jvm.Cond.and given_1 narrow_1).before #[Value.ref b] s = true ∧ meth.name = "law"

/-- the heap at the law's start: nothing is made yet -/
def h00 (b0 : Nat) (xs : XS) : PH := (fun _ _ => 0, fun _ _ => none, fun _ => (9, 0), b0, xs)
theorem Rep0 {b0 : Nat} {D : va_G} {cI cR : ClassId} {xs : XS} {H : Heap} (h : H.size = b0) : Rep b0 D cI cR xs (h00 b0 xs) H :=
  ⟨h, Nat.le_refl _, rfl, fun a ha => absurd ha (by show ¬ (9 : Nat) < 3; decide)⟩
theorem flat_el : ∀ j : Fin 143, (Cond.eq (.elem (.field (Term.string RX4 93) "java/lang/String" "value" "[B") (.int (Int32.ofNat j.val))) (.int (wbyt.getD j.val 0))) ∈ flatC (Jvm.Cond.and given_1 narrow_1) := by decide +kernel
theorem flat_a : (Cond.exactly (Term.string RX4 93) "java/lang/String") ∈ flatC (Jvm.Cond.and given_1 narrow_1) := by decide +kernel
theorem flat_b : (Cond.eq (.field (Term.string RX4 93) "java/lang/String" "coder" "B") (.int 0)) ∈ flatC (Jvm.Cond.and given_1 narrow_1) := by decide +kernel
theorem flat_c : (Cond.arrayOf (.field (Term.string RX4 93) "java/lang/String" "value" "[B") .byte) ∈ flatC (Jvm.Cond.and given_1 narrow_1) := by decide +kernel
theorem flat_d : (Cond.eq (.length (.field (Term.string RX4 93) "java/lang/String" "value" "[B")) (.int (Int32.ofNat wlen))) ∈ flatC (Jvm.Cond.and given_1 narrow_1) := by decide +kernel
theorem flat_e : (Cond.eq (.static "java/lang/String" "COMPACT_STRINGS" "Z") (.int 1)) ∈ flatC (Jvm.Cond.and given_1 narrow_1) := by decide +kernel
theorem flat_f : (Cond.isRef (.static "jdk/internal/util/Preconditions" "SIOOBE_FORMATTER" "Ljava/util/function/BiFunction;")) ∈ flatC (Jvm.Cond.and given_1 narrow_1) := by decide +kernel
theorem tb_str : Cond.stringRef RX4 93 wtxt ∈ lw_tbl := by decide +kernel
theorem tb_cs : Cond.laysStatic "java/lang/String" "COMPACT_STRINGS" "Z" ∈ lw_tbl := by decide +kernel
theorem tb_pc : Cond.laysStatic "jdk/internal/util/Preconditions" "SIOOBE_FORMATTER" "Ljava/util/function/BiFunction;" ∈ lw_tbl := by decide +kernel
theorem tb_i1 : Cond.initialized "java/lang/String" ∈ lw_tbl := by decide +kernel
theorem tb_i2 : Cond.initialized "jdk/internal/util/Preconditions" ∈ lw_tbl := by decide +kernel
theorem tb_ao : Cond.arrayOver (.object RX5) ∈ lw_tbl := by decide +kernel
theorem tb_ac : Cond.arrayClass .int ∈ lw_tbl := by decide +kernel
theorem tb_ns : ∀ q ∈ nestL, Cond.methodLinkNest q.1 q.2.1 q.2.2 "TearCustoms" ∈ lw_tbl := by decide +kernel
theorem tb_n0 : Cond.instantiable RX0 6 ∈ lw_tbl := by decide +kernel
theorem tb_n1 : Cond.instantiable RX1 7 ∈ lw_tbl := by decide +kernel
theorem tb_n2 : Cond.instantiable RX2 5 ∈ lw_tbl := by decide +kernel
theorem tb_n3 : Cond.instantiable RX3 3 ∈ lw_tbl := by decide +kernel
theorem tb_n4 : Cond.instantiable RX4 11 ∈ lw_tbl := by decide +kernel
theorem tb_n5 : Cond.instantiable RX5 20 ∈ lw_tbl := by decide +kernel
theorem tb_n6 : Cond.instantiable RX6 3 ∈ lw_tbl := by decide +kernel
theorem tb_n7 : Cond.instantiable RX7 10 ∈ lw_tbl := by decide +kernel
theorem tb_n8 : Cond.instantiable RX8 6 ∈ lw_tbl := by decide +kernel
theorem tb_n9 : Cond.instantiable RX9 74 ∈ lw_tbl := by decide +kernel

/-- what the start gives of what lies outside -/
theorem ext_start {s : State} {b L : Nat} {xs : Nat → Int32} (hts : ∀ w ∈ lw_tbl, w.before #[Value.ref b] s = true) (hX : va_X b L xs s s.heap) (hbl : b < s.heap.size) (hgv : (Jvm.Cond.and given_1 narrow_1).before #[Value.ref b] s = true) : ∃ aK aV : Nat, Ext s.heap.size (aK, aV, b, L, xs) s := by
  have hf := flat_of_before _ hgv
  have hA : ∀ a : Nat, a < s.heap.size → ¬ s.heap.size ≤ a := fun a h => Nat.not_le.mpr h
  obtain ⟨adK, adV, hS, hev⟩ := vk_Sof (N := 1) (tm := fun _ => Term.string RX4 93) (len := [wlen]) (byt := [wbyt]) (A := fun q => s.heap.size ≤ q) (s := s) (args := #[Value.ref b])
    (fun i hi => by obtain rfl : i = 0 := by omega
                    decide)
    (fun i _ => hf _ flat_a) (fun i _ => hf _ flat_b) (fun i _ => hf _ flat_c)
    (fun i hi => by obtain rfl : i = 0 := by omega
                    exact hf _ flat_d)
    (fun i hi j hj => by
      obtain rfl : i = 0 := by omega
      exact hf _ (flat_el ⟨j, hj⟩))
    (fun i j hi hj hij => absurd (by omega : i = j) hij) hA
  refine ⟨adK 0, adV 0, va_AO.of (hts _ tb_ao), vk_R.of (hts _ tb_str) (hev 0 (by decide)), ?_, va_Zof (hts _ tb_cs) (hts _ tb_i1) (va_eqi (hf _ flat_e)) hA, va_Zqof (hts _ tb_pc) (hts _ tb_i2) (hf _ flat_f) hA, fun q hq => va_Nw.of rfl (hts _ (tb_ns q hq)), hX, hbl, hA b hbl⟩
  refine ⟨fun i hi => ?_, fun i j hi hj _ => by omega⟩
  obtain rfl : i = 0 := by omega
  exact hS.1 0 (by decide)
theorem known_start {s : State} {a : Array Value} (hts : ∀ w ∈ lw_tbl, w.before a s = true) : ∃ (D : va_G) (cI cR : ClassId), va_K D clsOf [(cI, .int), (cR, .object RX5)] s := by
  obtain ⟨c0, j0, n0⟩ := u_known (C := RX0) (T := TX0) (N := 6) (n := 6) hts (fun w hw => (iX0 w hw).1) (hts _ tb_n0)
  obtain ⟨c1, j1, n1⟩ := u_known (C := RX1) (T := TX1) (N := 7) (n := 7) hts (fun w hw => (iX1 w hw).1) (hts _ tb_n1)
  obtain ⟨c2, j2, n2⟩ := u_known (C := RX2) (T := TX2) (N := 5) (n := 5) hts (fun w hw => (iX2 w hw).1) (hts _ tb_n2)
  obtain ⟨c3, j3, n3⟩ := u_known (C := RX3) (T := TX3) (N := 3) (n := 3) hts (fun w hw => (iX3 w hw).1) (hts _ tb_n3)
  obtain ⟨c4, j4, n4⟩ := u_known (C := RX4) (T := TX4) (N := 11) (n := 11) hts (fun w hw => (iX4 w hw).1) (hts _ tb_n4)
  obtain ⟨c5, j5, n5⟩ := u_known (C := RX5) (T := TX5) (N := 20) (n := 20) hts (fun w hw => (iX5 w hw).1) (hts _ tb_n5)
  obtain ⟨c6, j6, n6⟩ := u_known (C := RX6) (T := TX6) (N := 3) (n := 3) hts (fun w hw => (iX6 w hw).1) (hts _ tb_n6)
  obtain ⟨c7, j7, n7⟩ := u_known (C := RX7) (T := TX7) (N := 10) (n := 10) hts (fun w hw => (iX7 w hw).1) (hts _ tb_n7)
  obtain ⟨c8, j8, n8⟩ := u_known (C := RX8) (T := TX8) (N := 6) (n := 6) hts (fun w hw => (iX8 w hw).1) (hts _ tb_n8)
  obtain ⟨c9, j9, n9⟩ := u_known (C := RX9) (T := TX9) (N := 74) (n := 74) hts (fun w hw => (iX9 w hw).1) (hts _ tb_n9)
  obtain ⟨cI, kI, compI, i1, i2, i3⟩ := Cond.arrayClass_spec (hts _ tb_ac)
  obtain ⟨comp, cR, kR, r1, r2, r3, r4, r5⟩ := Cond.arrayOver_spec (hts _ tb_ao)
  refine ⟨(fun k => if k = 0 then c0 else if k = 1 then c1 else if k = 2 then c2 else if k = 3 then c3 else if k = 4 then c4 else if k = 5 then c5 else if k = 6 then c6 else if k = 7 then c7 else if k = 8 then c8 else c9, fun k => if k = 0 then j0 else if k = 1 then j1 else if k = 2 then j2 else if k = 3 then j3 else if k = 4 then j4 else if k = 5 then j5 else if k = 6 then j6 else if k = 7 then j7 else if k = 8 then j8 else j9), cI, cR, ?_, ?_⟩
  · intro k q hq
    match k, hq with
    | 0, hq => cases hq; exact n0
    | 1, hq => cases hq; exact n1
    | 2, hq => cases hq; exact n2
    | 3, hq => cases hq; exact n3
    | 4, hq => cases hq; exact n4
    | 5, hq => cases hq; exact n5
    | 6, hq => cases hq; exact n6
    | 7, hq => cases hq; exact n7
    | 8, hq => cases hq; exact n8
    | 9, hq => cases hq; exact n9
    | k + 10, hq => simp [clsOf] at hq
  · intro k q hq
    match k, hq with
    | 0, hq => cases hq; exact ⟨fun n z => ⟨fun k h => (by cases h), kI, i2, compI, i3⟩, i1⟩
    | 1, hq => cases hq; exact ⟨fun n z => ⟨fun k h => (by cases h), kR, r3, comp, r4⟩, kR, comp, r3, r4, r1, r5⟩
    | k + 2, hq => simp at hq
/-- the law's function answers 1: then the machine does -/
theorem start_open {p : Program} {e : Env} {s : State} {m : MethodId} {below : List Frame} {meth : Method} {c : Code} (l : Launch) {b L : Nat} {xs : Nat → Int32} (hL : L ≤ 3072) (C0 : lw_At p s m meth c b L xs) (hpure : ∀ (b0 : Nat) (X : XS), X.2.2.1 = b → X.2.2.2.1 = L → ∃ hF, f_Lw_law b (h00 b0 X) = some (1, hF)) : W p l e room_1 s m #[Value.ref b] below meth c s.heap [] 0 0 (lw_Z below #[Value.ref b] s) (entryFrame m ([Value.ref b] : List Value).toArray 4) := by
  obtain ⟨hx, hb, hr, hml, hown, hts, hX, hbl, hlocks, hgv, hname⟩ := C0
  obtain ⟨aK, aV, hE⟩ := ext_start hts hX hbl hgv
  obtain ⟨D, cI, cR, hK⟩ := known_start hts
  obtain ⟨hF, hf⟩ := hpure s.heap.size (aK, aV, b, L, xs) rfl rfl
  have hE1 := t_Lw_law (d := 600) (mc := 600000) (ms := 7302250) (by omega) (by omega) (by omega) hf
  have hM := hE1 (Mach s.heap.size D cI cR (aK, aV, b, L, xs)) sound
  have hl := lv_entry ([.ref b]) (n := 4) (Nat.le_of_ble_eq_true rfl)
  rw [lg_entry_eq]
  generalize (lg_sl ([.ref b]) ++ List.replicate (4 - (lg_sl ([.ref b])).length) Slot.unset).toArray = ls at hl ⊢
  refine hM p l e room_1 s m #[Value.ref b] below meth c s.heap [] 0 0 ls (lw_Z below #[Value.ref b] s) 600000 7302250 ⟨hx, hb, hr, hml, hown, fun w hw => hts w (List.mem_filter.mp hw).1, hlocks, hname, hK, hE, by decide, by decide, Nat.le_refl _⟩ hl (Rep0 rfl) va_S.rf (by omega) (by omega) (Nat.le_refl _) (Nat.le_refl _) ?_
  intro v h' H' locs' lsA' pc' hq hR' hS hw
  obtain ⟨rfl, rfl⟩ := hq
  obtain ⟨i, hd, hi, -⟩ := hw
  have hi : i = .ireturn := hi
  subst hi
  refine va_forget hS.2.2 ?_
  exact lw_ret hx hb hr hlocks hd
