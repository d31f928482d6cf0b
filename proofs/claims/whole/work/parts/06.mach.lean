/-! WHAT A JUDGEMENT SAYS OF THE MACHINE -/
def Ext (b0 : Nat) (xs : XS) (s : State) : Prop := va_AO RX5 s ∧ vk_R RX4 93 wtxt xs.1 s ∧ vk_S 1 [wlen] [wbyt] (fun _ => xs.1) (fun _ => xs.2.1) (fun q => b0 ≤ q) s s.heap ∧ va_Z "java/lang/String" "COMPACT_STRINGS" "Z" (.int 1) (fun q => b0 ≤ q) s s.heap ∧ va_Zq "jdk/internal/util/Preconditions" "SIOOBE_FORMATTER" "Ljava/util/function/BiFunction;" (fun q => b0 ≤ q) s s.heap ∧ (∀ q ∈ nestL, va_Nw (.methodLinkNest q.1 q.2.1 q.2.2 "TearCustoms") s) ∧ va_X xs.2.2.1 xs.2.2.2.1 xs.2.2.2.2 s s.heap ∧ xs.2.2.1 < s.heap.size ∧ ¬ b0 ≤ xs.2.2.1
def retW (M : MT) (pc : Nat) (v : Option Value) : Prop := match v with
  | some w => ∃ i, decode M.2.2.1 pc = .ok (i, 1) ∧ retI i w ∧ retOK M.2.2.2.2 w
  | none => decode M.2.2.1 pc = .ok (.return_, 1) ∧ M.2.2.2.2 = none
def Ctx (b0 : Nat) (D : va_G) (cI cR : ClassId) (xs : XS) (p : Program) (R : Room) (s : State) (m : MethodId) (args : Array Value) (meth : Method) (c : Code) (M : MT) (d : Nat) : Prop :=
  p.tables.exec = Jvm.exec ∧ c.code = M.2.2.1 ∧ meth.sig.returnType = M.2.2.2.2 ∧ c.maxLocals = M.2.2.2.1 ∧ s.vm.findClass M.1 = some m.cls ∧ (∀ w ∈ gtbl, w.before args s = true) ∧ meth.locks = false ∧ meth.name = M.2.1.name ∧ va_K D clsOf [(cI, .int), (cR, .object RX5)] s ∧ Ext b0 xs s ∧ d ≤ R.frames ∧ 64 * d ≤ R.locals ∧ b0 ≤ s.heap.size
def Mach (b0 : Nat) (D : va_G) (cI cR : ClassId) (xs : XS) : PX := fun d mc ms M pc ls st h Q =>
  ∀ (p : Program) (l : Launch) (e : Env) (R : Room) (s : State) (m : MethodId) (args : Array Value) (below : List Frame) (meth : Method) (c : Code) (H : Heap) (locs : List Loc) (cells slots : Nat) (lsA : Array Slot) (Z : State → Prop) (mcT msT : Nat),
    Ctx b0 D cI cR xs p R s m args meth c M d → lv_has lsA M.2.2.2.1 ls → Rep b0 D cI cR xs h H → va_S (fun q => b0 ≤ q) s.heap H locs → cells + mc ≤ mcT → slots + ms ≤ msT → mcT ≤ R.cells → msT ≤ R.slots →
    (∀ (v : Option Value) (h' : PH) (H' : Heap) (locs' : List Loc) (lsA' : Array Slot) (pc' : Nat), Q v h' → Rep b0 D cI cR xs h' H' → va_S (fun q => b0 ≤ q) s.heap H' locs' → retW M pc' v → W p l e R s m args below meth c H' locs' mcT msT Z (F0 m pc' lsA' v.toList)) →
    W p l e R s m args below meth c H locs cells slots Z (F0 m pc lsA st)
section SOUND
variable {b0 : Nat} {D : va_G} {cI cR : ClassId} {xs : XS}
theorem k_sub : r_sub (Mach b0 D cI cR xs) := by
  intro d mc ms M pc ls st h Q ls' ks hk kk p l e R s m args below meth c H locs cells slots lsA Qc mcT msT C hl hR hS g1 g2 g3 g4 hQ
  exact kk p l e R s m args below meth c H locs cells slots lsA Qc mcT msT C (lv_sub hl ks hk) hR hS g1 g2 g3 g4 hQ
theorem k_cst : r_cst (Mach b0 D cI cR xs) := by
  intro d mc ms M pc ls st h Q i len v hd hv kk p l e R s m args below meth c H locs cells slots lsA Qc mcT msT C hl hR hS g1 g2 g3 g4 hQ
  have k := kk p l e R s m args below meth c H locs cells slots lsA Qc mcT msT C hl hR hS g1 g2 g3 g4 hQ
  obtain ⟨hx, hb, -⟩ := C
  unfold cstv at hv
  split at hv <;> (first | (cases hv; done) | skip)
  · cases hv; exact lv_iconst hx hb hd rfl k
  · cases hv; exact lv_bipush hx hb hd rfl k
  · cases hv; exact lv_sipush hx hb hd rfl k
  · cases hv; exact lv_lconst hx hb hd rfl k
theorem k_op : r_op (Mach b0 D cI cR xs) := by
  intro d mc ms M pc ls st h Q i len st' hd hv kk p l e R s m args below meth c H locs cells slots lsA Qc mcT msT C hl hR hS g1 g2 g3 g4 hQ
  have k := kk p l e R s m args below meth c H locs cells slots lsA Qc mcT msT C hl hR hS g1 g2 g3 g4 hQ
  obtain ⟨hx, hb, -⟩ := C
  unfold opv at hv
  split at hv <;> (first | (cases hv; done) | skip)
  · cases hv; exact lv_iadd hx hb hd k
  · cases hv; exact lv_isub hx hb hd k
  · cases hv; exact lv_imul hx hb hd k
  · cases hv; exact lv_iand hx hb hd k
  · cases hv; exact lv_ior hx hb hd k
  · cases hv; exact lv_ixor hx hb hd k
  · cases hv; exact lv_ishl hx hb hd k
  · cases hv; exact lv_ishr hx hb hd k
  · cases hv; exact lv_iushr hx hb hd rfl k
  · cases hv; exact lv_ineg hx hb hd (by first | exact k | (simpa using k))
  · cases hv; exact lv_i2l hx hb hd rfl k
  · cases hv; exact lv_l2i hx hb hd rfl k
  · cases hv; exact lv_i2c hx hb hd rfl k
  · cases hv; exact lv_ladd hx hb hd k
  · cases hv; exact lv_lmul hx hb hd k
  · cases hv; exact W.lcmp hx hb hd k
  · cases hv; exact lv_dup hx hb hd rfl k
  · cases hv; exact lv_dup hx hb hd rfl k
  · cases hv; exact lv_pop hx hb hd rfl k
  · cases hv; exact lv_pop hx hb hd rfl k
  · cases hv; exact lv_dup2_11 hx hb hd rfl rfl k
  · cases hv; exact lv_dup2_11 hx hb hd rfl rfl k
  · cases hv; exact lv_dup_x1 hx hb hd rfl rfl k
  · cases hv; exact lv_null hx hb hd k
theorem k_load : r_load (Mach b0 D cI cR xs) := by
  intro d mc ms M pc ls st h Q i len k j v hd hv hj kk p l e R s m args below meth c H locs cells slots lsA Qc mcT msT C hl hR hS g1 g2 g3 g4 hQ
  have k := kk p l e R s m args below meth c H locs cells slots lsA Qc mcT msT C hl hR hS g1 g2 g3 g4 hQ
  obtain ⟨hx, hb, -⟩ := C
  unfold ldv at hv
  split at hv <;> (first | (cases hv; done) | skip)
  · cases hv; exact lv_iload_n hx hb hd rfl (lv_at hl j hj) k
  · cases hv; exact lv_iload hx hb hd (lv_at hl j hj) k
  · cases hv; exact lv_aload_n hx hb hd rfl (lv_at hl j hj) k
  · cases hv; exact lv_aload hx hb hd (lv_at hl j hj) k
  · cases hv; exact lv_lload_n hx hb hd rfl (lv_at hl j hj) k
  · cases hv; exact lv_lload hx hb hd (lv_at hl j hj) k
theorem k_store : r_store (Mach b0 D cI cR xs) := by
  intro d mc ms M pc ls st h Q i len v ls' hd hv kk p l e R s m args below meth c H locs cells slots lsA Qc mcT msT C hl hR hS g1 g2 g3 g4 hQ
  have k := fun lsA hl => kk p l e R s m args below meth c H locs cells slots lsA Qc mcT msT C hl hR hS g1 g2 g3 g4 hQ
  obtain ⟨hx, hb, -⟩ := C
  unfold stv at hv
  split at hv <;> (first | (cases hv; done) | skip)
  · split at hv
    · cases hv; exact lv_istore_n hx hb hd rfl hl (by assumption) rfl k
    · cases hv
  · split at hv
    · cases hv; exact lv_istore hx hb hd hl (by assumption) rfl k
    · cases hv
  · split at hv
    · cases hv; exact lv_astore_n hx hb hd rfl hl (by assumption) rfl k
    · cases hv
  · split at hv
    · cases hv; exact lv_astore hx hb hd hl (by assumption) rfl k
    · cases hv
  · split at hv
    · cases hv; exact lv_lstore_n hx hb hd rfl hl (by assumption) rfl k
    · cases hv
  · split at hv
    · cases hv; exact lv_lstore hx hb hd hl (by assumption) rfl k
    · cases hv
theorem k_iinc : r_iinc (Mach b0 D cI cR xs) := by
  intro d mc ms M pc ls st h Q i n x j ls' hd hj hn he kk p l e R s m args below meth c H locs cells slots lsA Qc mcT msT C hl hR hS g1 g2 g3 g4 hQ
  have k := fun lsA hl => kk p l e R s m args below meth c H locs cells slots lsA Qc mcT msT C hl hR hS g1 g2 g3 g4 hQ
  obtain ⟨hx, hb, -⟩ := C
  exact lv_iinc hx hb hd hl hj rfl hn he k
theorem k_icmp : r_icmp (Mach b0 D cI cR xs) := by
  intro d mc ms M pc ls st h Q cc off tgt x y hd ht k1 k2 p l e R s m args below meth c H locs cells slots lsA Qc mcT msT C hl hR hS g1 g2 g3 g4 hQ
  have k1 := fun z => k1 z p l e R s m args below meth c H locs cells slots lsA Qc mcT msT C hl hR hS g1 g2 g3 g4 hQ
  have k2 := fun z => k2 z p l e R s m args below meth c H locs cells slots lsA Qc mcT msT C hl hR hS g1 g2 g3 g4 hQ
  obtain ⟨hx, hb, -⟩ := C
  cases cc with
  | eq => exact lv_icmp_eq hx hb hd ht k1 k2
  | ne => exact lv_icmp_ne hx hb hd ht k1 (fun z => k2 (fun q => q z))
  | lt => exact lv_icmp_lt hx hb hd ht k1 k2
  | ge => exact lv_icmp_ge hx hb hd ht k1 k2
  | gt => exact lv_icmp_gt hx hb hd ht k1 k2
  | le => exact lv_icmp_le hx hb hd ht k1 k2
theorem k_if : r_if (Mach b0 D cI cR xs) := by
  intro d mc ms M pc ls st h Q cc off tgt x hd ht k1 k2 p l e R s m args below meth c H locs cells slots lsA Qc mcT msT C hl hR hS g1 g2 g3 g4 hQ
  have k1 := fun z => k1 z p l e R s m args below meth c H locs cells slots lsA Qc mcT msT C hl hR hS g1 g2 g3 g4 hQ
  have k2 := fun z => k2 z p l e R s m args below meth c H locs cells slots lsA Qc mcT msT C hl hR hS g1 g2 g3 g4 hQ
  obtain ⟨hx, hb, -⟩ := C
  cases cc with
  | eq => exact lv_if_eq hx hb hd ht k1 k2
  | ne => exact lv_if_ne hx hb hd ht k1 (fun z => k2 (fun q => q z))
  | lt => exact lv_if_lt hx hb hd ht k1 k2
  | ge => exact lv_if_ge hx hb hd ht k1 k2
  | gt => exact lv_if_gt hx hb hd ht k1 k2
  | le => exact lv_if_le hx hb hd ht k1 k2
theorem k_goto : r_goto (Mach b0 D cI cR xs) := by
  intro d mc ms M pc ls st h Q off tgt hd ht k p l e R s m args below meth c H locs cells slots lsA Qc mcT msT C hl hR hS g1 g2 g3 g4 hQ
  have k := k p l e R s m args below meth c H locs cells slots lsA Qc mcT msT C hl hR hS g1 g2 g3 g4 hQ
  obtain ⟨hx, hb, -⟩ := C
  exact lv_goto hx hb hd ht k
theorem k_null : r_null (Mach b0 D cI cR xs) := by
  intro d mc ms M pc ls st h Q off tgt o hd ht k1 k2 p l e R s m args below meth c H locs cells slots lsA Qc mcT msT C hl hR hS g1 g2 g3 g4 hQ
  have k1 := fun z => k1 z p l e R s m args below meth c H locs cells slots lsA Qc mcT msT C hl hR hS g1 g2 g3 g4 hQ
  have k2 := fun a z => k2 a z p l e R s m args below meth c H locs cells slots lsA Qc mcT msT C hl hR hS g1 g2 g3 g4 hQ
  obtain ⟨hx, hb, -⟩ := C
  cases o with
  | none => exact lv_ifnullN hx hb hd ht (k1 rfl)
  | some a => exact lv_ifnull hx hb hd (k2 a rfl)
theorem k_nonnull : r_nonnull (Mach b0 D cI cR xs) := by
  intro d mc ms M pc ls st h Q off tgt o hd ht k1 k2 p l e R s m args below meth c H locs cells slots lsA Qc mcT msT C hl hR hS g1 g2 g3 g4 hQ
  have k1 := fun a z => k1 a z p l e R s m args below meth c H locs cells slots lsA Qc mcT msT C hl hR hS g1 g2 g3 g4 hQ
  have k2 := fun z => k2 z p l e R s m args below meth c H locs cells slots lsA Qc mcT msT C hl hR hS g1 g2 g3 g4 hQ
  obtain ⟨hx, hb, -⟩ := C
  cases o with
  | none => exact lv_ifnonnullN hx hb hd (k2 rfl)
  | some a => exact lv_ifnonnull hx hb hd ht (k1 a rfl)
theorem k_table : r_table (Mach b0 D cI cR xs) := by
  intro d mc ms M pc ls st h Q dflt lo hi offs len x tgt hd ho hi' k p l e R s m args below meth c H locs cells slots lsA Qc mcT msT C hl hR hS g1 g2 g3 g4 hQ
  have k := k p l e R s m args below meth c H locs cells slots lsA Qc mcT msT C hl hR hS g1 g2 g3 g4 hQ
  obtain ⟨hx, hb, -⟩ := C
  by_cases h1 : x.toInt < lo
  · exact lv_tableOut hx hb hd (Or.inl h1) (ho (Or.inl h1)) k
  · by_cases h2 : hi < x.toInt
    · exact lv_tableOut hx hb hd (Or.inr h2) (ho (Or.inr h2)) k
    · obtain ⟨off, e1, e2⟩ := hi' h1 h2
      exact lv_tableIn hx hb hd h1 h2 e1 e2 k
theorem k_div : r_div (Mach b0 D cI cR xs) := by
  intro d mc ms M pc ls st h Q x y hd hy k p l e R s m args below meth c H locs cells slots lsA Qc mcT msT C hl hR hS g1 g2 g3 g4 hQ
  have k := k p l e R s m args below meth c H locs cells slots lsA Qc mcT msT C hl hR hS g1 g2 g3 g4 hQ
  obtain ⟨hx, hb, -⟩ := C
  exact lv_idiv hx hb hd hy k
theorem k_rem : r_rem (Mach b0 D cI cR xs) := by
  intro d mc ms M pc ls st h Q x y hd hy k p l e R s m args below meth c H locs cells slots lsA Qc mcT msT C hl hR hS g1 g2 g3 g4 hQ
  have k := k p l e R s m args below meth c H locs cells slots lsA Qc mcT msT C hl hR hS g1 g2 g3 g4 hQ
  obtain ⟨hx, hb, -⟩ := C
  exact lv_irem hx hb hd hy k
theorem k_ldiv : r_ldiv (Mach b0 D cI cR xs) := by
  intro d mc ms M pc ls st h Q x y hd hy k p l e R s m args below meth c H locs cells slots lsA Qc mcT msT C hl hR hS g1 g2 g3 g4 hQ
  have k := k p l e R s m args below meth c H locs cells slots lsA Qc mcT msT C hl hR hS g1 g2 g3 g4 hQ
  obtain ⟨hx, hb, -⟩ := C
  exact lv_ldiv hx hb hd hy k
theorem k_ldc : r_ldc (Mach b0 D cI cR xs) := by
  intro d mc ms M pc ls st h Q i idx len v hd hi hw k p l e R s m args below meth c H locs cells slots lsA Qc mcT msT C hl hR hS g1 g2 g3 g4 hQ
  have k := k p l e R s m args below meth c H locs cells slots lsA Qc mcT msT C hl hR hS g1 g2 g3 g4 hQ
  obtain ⟨hx, hb, -, -, ho, ht, -⟩ := C
  rcases hi with ⟨rfl, rfl⟩ | ⟨rfl, rfl⟩
  · exact lv_ldc hx hb ho (ht _ (inT_g hw)) hd k
  · exact lv_ldcw hx hb ho (ht _ (inT_g hw)) hd k
theorem k_ldl : r_ldl (Mach b0 D cI cR xs) := by
  intro d mc ms M pc ls st h Q idx v hd hw k p l e R s m args below meth c H locs cells slots lsA Qc mcT msT C hl hR hS g1 g2 g3 g4 hQ
  have k := k p l e R s m args below meth c H locs cells slots lsA Qc mcT msT C hl hR hS g1 g2 g3 g4 hQ
  obtain ⟨hx, hb, -, -, ho, ht, -⟩ := C
  exact lv_ldc2 hx hb ho (ht _ (inT_g hw)) hd k
end SOUND
