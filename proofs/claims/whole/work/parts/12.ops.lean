/-! the pure machine's operations as partial functions, and the rules by them -/
def FU : Nat := 70000
def inb (i : Int32) (n : Nat) : Bool := !(decide (i < 0) || decide (n ≤ i.toNatClampNeg))
theorem inb_vp {i : Int32} {n : Nat} (h : inb i n = true) : vp_in i n := by
  unfold inb at h
  unfold vp_in
  simpa using h
def isA (h : PH) (a : Nat) (i : Int32) : Bool := (gK h a).1 == 1 && inb i (gK h a).2
def isQ (h : PH) (a : Nat) (i : Int32) : Bool := (gK h a).1 == 2 && inb i (gK h a).2
def ldI (h : PH) (ci a k : Nat) : Option Int32 := if gK h a = (0, ci) then some (gI h a k) else none
def ldR (h : PH) (ci a k : Nat) : Option Nat := if gK h a = (0, ci) then gR h a k else none
def ldO (h : PH) (ci a k : Nat) : Option (Option Nat) := if gK h a = (0, ci) then some (gR h a k) else none
def stI (h : PH) (ci a k : Nat) (x : Int32) : Option PH := if gK h a = (0, ci) then some (sI h a k x) else none
def stZ (h : PH) (ci a k : Nat) (x : Int32) : Option PH := if gK h a = (0, ci) ∧ (x = 0 ∨ x = 1) then some (sI h a k x) else none
def stR (h : PH) (ci a k : Nat) (o : Option Nat) : Option PH := if gK h a = (0, ci) then some (sR h a k o) else none
def rdA (h : PH) (a : Nat) (i : Int32) : Option Int32 := if isA h a i = true then some (gI h a i.toNatClampNeg) else none
def wrA (h : PH) (a : Nat) (i x : Int32) : Option PH := if isA h a i = true then some (sI h a i.toNatClampNeg x) else none
def lnA (h : PH) (a : Nat) : Option Int32 := if (gK h a).1 = 1 then some (nI (gK h a).2) else none
def rdQ (h : PH) (a : Nat) (i : Int32) : Option Nat := if isQ h a i = true then gR h a i.toNatClampNeg else none
def wrQ (h : PH) (a : Nat) (i : Int32) (b : Nat) : Option PH := if isQ h a i = true ∧ gK h b = (0, 5) then some (sR h a i.toNatClampNeg (some b)) else none
def nwA (h : PH) (x : Int32) (lim : Nat) : Option PH := if x = nI x.toNatClampNeg ∧ x.toNatClampNeg ≤ lim ∧ lim < 65536 then some (nw h (1, x.toNatClampNeg)) else none
def nwQ (h : PH) (x : Int32) (lim : Nat) : Option PH := if x = nI x.toNatClampNeg ∧ x.toNatClampNeg ≤ lim ∧ lim < 65536 then some (nw h (2, x.toNatClampNeg)) else none
def dvI (x y : Int32) : Option Int32 := if y = 0 then none else some (x / y)
def rmI (x y : Int32) : Option Int32 := if y = 0 then none else some (jrem x y)
def dvL (x y : Int64) : Option Int64 := if y = 0 then none else some (x / y)
def cpA (h : PH) (a : Nat) (sp : Int32) (b : Nat) (dp n : Int32) : Option PH := if ((gK h a).1 = 1 ∧ (gK h b).1 = 1 ∧ (gK h a).2 < 65536 ∧ (gK h b).2 < 65536) ∧ (sp = nI sp.toNatClampNeg ∧ dp = nI dp.toNatClampNeg ∧ n = nI n.toNatClampNeg) ∧ sp.toNatClampNeg + n.toNatClampNeg ≤ (gK h a).2 ∧ dp.toNatClampNeg + n.toNatClampNeg ≤ (gK h b).2 then some (cpI h a sp.toNatClampNeg b dp.toNatClampNeg n.toNatClampNeg) else none
def rtZ (v : Int32) (h : PH) : Option (Int32 × PH) := if v = 0 ∨ v = 1 then some (v, h) else none
def rtC (v : Int32) (h : PH) : Option (Int32 × PH) := if (v.toUInt32 % 65536).toInt32 = v then some (v, h) else none
def rtB (v : Int32) (h : PH) : Option (Int32 × PH) := if v.toInt8.toInt32 = v then some (v, h) else none
def rdX (h : PH) (a : Nat) (i : Int32) : Option Int32 := if a = (gX h).2.1 ∧ inb i wlen = true then some (wbyt.getD i.toNatClampNeg 0) else none
def lnX (h : PH) (a : Nat) : Option Int32 := if a = (gX h).2.1 then some (nI wlen) else none
def gvX (h : PH) (a : Nat) : Option Nat := if a = (gX h).1 then some (gX h).2.1 else none
def gcX (h : PH) (a : Nat) : Option Int32 := if a = (gX h).1 then some 0 else none
def rdS (h : PH) (a : Nat) (i : Int32) : Option Int32 := if a = (gX h).2.2.1 ∧ inb i (gX h).2.2.2.1 = true then some ((gX h).2.2.2.2 i.toNatClampNeg) else none
def lnS (h : PH) (a : Nat) : Option Int32 := if a = (gX h).2.2.1 then some (nI (gX h).2.2.2.1) else none
def PI (r : Int32 × PH) : Option Value → PH → Prop := fun v h => v = some (.int r.1) ∧ h = r.2
def PL (r : Int64 × PH) : Option Value → PH → Prop := fun v h => v = some (.long r.1) ∧ h = r.2
def PV (r : PH) : Option Value → PH → Prop := fun v h => v = none ∧ h = r
theorem bd {α β : Type} {o : Option α} {f : α → Option β} {r : β} (h : o.bind f = some r) : ∃ v, o = some v ∧ f v = some r := by
  cases o with
  | none => cases h
  | some v => exact ⟨v, rfl, h⟩
section OPS
variable {d mc ms : Nat} {M : MT} {pc : Nat} {ls : List (Nat × Value)} {st : List Value} {h : PH} {Q : Option Value → PH → Prop}
theorem E_iln {k : Fin 4} {i : Nat} {x : Int32} (j : Nat) (h1 : decode M.2.2.1 pc = .ok (.iload_n k, 1)) (h3 : ls[j]? = some (i, .int x)) (hi : (k : Nat) = i) (h4 : E d mc ms M (pc + 1) ls (.int x :: st) h Q) : E d mc ms M pc ls st h Q := E_load (v := .int x) h1 (by subst hi; rfl) h3 h4
theorem E_il {k : Nat} {x : Int32} (j : Nat) (h1 : decode M.2.2.1 pc = .ok (.iload k, 2)) (h3 : ls[j]? = some (k, .int x)) (h4 : E d mc ms M (pc + 2) ls (.int x :: st) h Q) : E d mc ms M pc ls st h Q := E_load (v := .int x) h1 rfl h3 h4
theorem E_aln {k : Fin 4} {i : Nat} {x : Nat} (j : Nat) (h1 : decode M.2.2.1 pc = .ok (.aload_n k, 1)) (h3 : ls[j]? = some (i, .ref x)) (hi : (k : Nat) = i) (h4 : E d mc ms M (pc + 1) ls (.ref x :: st) h Q) : E d mc ms M pc ls st h Q := E_load (v := .ref x) h1 (by subst hi; rfl) h3 h4
theorem E_al {k : Nat} {x : Nat} (j : Nat) (h1 : decode M.2.2.1 pc = .ok (.aload k, 2)) (h3 : ls[j]? = some (k, .ref x)) (h4 : E d mc ms M (pc + 2) ls (.ref x :: st) h Q) : E d mc ms M pc ls st h Q := E_load (v := .ref x) h1 rfl h3 h4
theorem E_lln {k : Fin 4} {i : Nat} {x : Int64} (j : Nat) (h1 : decode M.2.2.1 pc = .ok (.lload_n k, 1)) (h3 : ls[j]? = some (i, .long x)) (hi : (k : Nat) = i) (h4 : E d mc ms M (pc + 1) ls (.long x :: st) h Q) : E d mc ms M pc ls st h Q := E_load (v := .long x) h1 (by subst hi; rfl) h3 h4
theorem E_ll {k : Nat} {x : Int64} (j : Nat) (h1 : decode M.2.2.1 pc = .ok (.lload k, 2)) (h3 : ls[j]? = some (k, .long x)) (h4 : E d mc ms M (pc + 2) ls (.long x :: st) h Q) : E d mc ms M pc ls st h Q := E_load (v := .long x) h1 rfl h3 h4
theorem E_isn {k : Fin 4} {x : Int32} {ls' : List (Nat × Value)} (h1 : decode M.2.2.1 pc = .ok (.istore_n k, 1)) (hn : (k : Nat) < M.2.2.2.1) (hl : stl1 k (.int x) ls = ls') (h4 : E d mc ms M (pc + 1) ls' st h Q) : E d mc ms M pc ls (.int x :: st) h Q := E_store h1 (by subst hl; exact if_pos hn) h4
theorem E_is {k : Nat} {x : Int32} {ls' : List (Nat × Value)} (h1 : decode M.2.2.1 pc = .ok (.istore k, 2)) (hn : k < M.2.2.2.1) (hl : stl1 k (.int x) ls = ls') (h4 : E d mc ms M (pc + 2) ls' st h Q) : E d mc ms M pc ls (.int x :: st) h Q := E_store h1 (by subst hl; exact if_pos hn) h4
theorem E_asn {k : Fin 4} {x : Nat} {ls' : List (Nat × Value)} (h1 : decode M.2.2.1 pc = .ok (.astore_n k, 1)) (hn : (k : Nat) < M.2.2.2.1) (hl : stl1 k (.ref x) ls = ls') (h4 : E d mc ms M (pc + 1) ls' st h Q) : E d mc ms M pc ls (.ref x :: st) h Q := E_store h1 (by subst hl; exact if_pos hn) h4
theorem E_as {k : Nat} {x : Nat} {ls' : List (Nat × Value)} (h1 : decode M.2.2.1 pc = .ok (.astore k, 2)) (hn : k < M.2.2.2.1) (hl : stl1 k (.ref x) ls = ls') (h4 : E d mc ms M (pc + 2) ls' st h Q) : E d mc ms M pc ls (.ref x :: st) h Q := E_store h1 (by subst hl; exact if_pos hn) h4
theorem E_lsn {k : Fin 4} {x : Int64} {ls' : List (Nat × Value)} (h1 : decode M.2.2.1 pc = .ok (.lstore_n k, 1)) (hn : (k : Nat) + 1 < M.2.2.2.1) (hl : stl2 k (.long x) ls = ls') (h4 : E d mc ms M (pc + 1) ls' st h Q) : E d mc ms M pc ls (.long x :: st) h Q := E_store h1 (by subst hl; exact if_pos hn) h4
theorem E_lstor {k : Nat} {x : Int64} {ls' : List (Nat × Value)} (h1 : decode M.2.2.1 pc = .ok (.lstore k, 2)) (hn : k + 1 < M.2.2.2.1) (hl : stl2 k (.long x) ls = ls') (h4 : E d mc ms M (pc + 2) ls' st h Q) : E d mc ms M pc ls (.long x :: st) h Q := E_store h1 (by subst hl; exact if_pos hn) h4
theorem E_inc {i : Nat} {n : Int} {x v : Int32} {ls' : List (Nat × Value)} (j : Nat) (h1 : decode M.2.2.1 pc = .ok (.iinc i n, 3)) (h2 : ls[j]? = some (i, .int x)) (hn : i < M.2.2.2.1) (hv : Int32.ofInt n = v) (hl : stl1 i (.int (x + v)) ls = ls') (h4 : E d mc ms M (pc + 3) ls' st h Q) : E d mc ms M pc ls st h Q := E_iinc h1 h2 hn (by rw [hv]; exact hl) h4
theorem E_ic {n : Int} {v : Int32} (h1 : decode M.2.2.1 pc = .ok (.iconst n, 1)) (hv : Int32.ofInt n = v) (h4 : E d mc ms M (pc + 1) ls (.int v :: st) h Q) : E d mc ms M pc ls st h Q := E_cst h1 rfl (by rw [hv]; exact h4)
theorem E_bi {n : Int} {v : Int32} (h1 : decode M.2.2.1 pc = .ok (.bipush n, 2)) (hv : (Int8.ofInt n).toInt32 = v) (h4 : E d mc ms M (pc + 2) ls (.int v :: st) h Q) : E d mc ms M pc ls st h Q := E_cst h1 rfl (by rw [hv]; exact h4)
theorem E_si {n : Int} {v : Int32} (h1 : decode M.2.2.1 pc = .ok (.sipush n, 3)) (hv : (Int16.ofInt n).toInt32 = v) (h4 : E d mc ms M (pc + 3) ls (.int v :: st) h Q) : E d mc ms M pc ls st h Q := E_cst h1 rfl (by rw [hv]; exact h4)
theorem E_lc {n : Fin 2} {v : Int64} (h1 : decode M.2.2.1 pc = .ok (.lconst n, 1)) (hv : Int64.ofNat (n : Nat) = v) (h4 : E d mc ms M (pc + 1) ls (.long v :: st) h Q) : E d mc ms M pc ls st h Q := E_cst h1 rfl (by rw [hv]; exact h4)
theorem E_ldc1 {idx : Nat} {v : Int32} (h1 : decode M.2.2.1 pc = .ok (.ldc idx, 2)) (hw : inT (.constant M.1 idx v)) (h4 : E d mc ms M (pc + 2) ls (.int v :: st) h Q) : E d mc ms M pc ls st h Q := E_ldc h1 (Or.inl ⟨rfl, rfl⟩) hw h4
theorem E_ldcw {idx : Nat} {v : Int32} (h1 : decode M.2.2.1 pc = .ok (.ldc_w idx, 3)) (hw : inT (.constant M.1 idx v)) (h4 : E d mc ms M (pc + 3) ls (.int v :: st) h Q) : E d mc ms M pc ls st h Q := E_ldc h1 (Or.inr ⟨rfl, rfl⟩) hw h4
theorem E_gI {idx ci k a : Nat} {v : Int32} (h1 : decode M.2.2.1 pc = .ok (.getfield idx, 3)) (hl : LinkF M.1 idx ci k) (hr : isRf (fty ci k) = false) (e : ldI h ci a k = some v) (h4 : E d mc ms M (pc + 3) ls (.int v :: st) h Q) : E d mc ms M pc ls (.ref a :: st) h Q := by
  unfold ldI at e
  split at e
  · rename_i hk
    cases e
    refine E_get h1 hl hk ?_
    rw [fv, if_neg (by rw [hr]; decide)]
    exact h4
  · cases e
theorem E_gR {idx ci k a v : Nat} (h1 : decode M.2.2.1 pc = .ok (.getfield idx, 3)) (hl : LinkF M.1 idx ci k) (hr : isRf (fty ci k) = true) (e : ldR h ci a k = some v) (h4 : E d mc ms M (pc + 3) ls (.ref v :: st) h Q) : E d mc ms M pc ls (.ref a :: st) h Q := by
  unfold ldR at e
  split at e
  · rename_i hk
    refine E_get h1 hl hk ?_
    rw [fv, if_pos hr, e]
    exact h4
  · cases e
theorem E_gO {idx ci k a : Nat} {o : Option Nat} (h1 : decode M.2.2.1 pc = .ok (.getfield idx, 3)) (hl : LinkF M.1 idx ci k) (hr : isRf (fty ci k) = true) (e : ldO h ci a k = some o) (h4 : E d mc ms M (pc + 3) ls (va_rf o :: st) h Q) : E d mc ms M pc ls (.ref a :: st) h Q := by
  unfold ldO at e
  split at e
  · rename_i hk
    cases e
    refine E_get h1 hl hk ?_
    rw [fv, if_pos hr]
    exact h4
  · cases e
theorem E_pI {idx ci k a : Nat} {x : Int32} {h2 : PH} (h1 : decode M.2.2.1 pc = .ok (.putfield idx, 3)) (hl : LinkP M.1 M.2.1.name idx ci k) (hr : fty ci k = .int) (e : stI h ci a k x = some h2) (h4 : E d mc ms M (pc + 3) ls st h2 Q) : E d mc ms M pc ls (.int x :: .ref a :: st) h Q := by
  unfold stI at e
  split at e
  · rename_i hk
    cases e
    exact E_putI h1 hl hk (by rw [hr]; rfl) (by rw [hr]; rfl) (by rw [hr]; rfl) h4
  · cases e
theorem E_pZ {idx ci k a : Nat} {x : Int32} {h2 : PH} (h1 : decode M.2.2.1 pc = .ok (.putfield idx, 3)) (hl : LinkP M.1 M.2.1.name idx ci k) (hr : fty ci k = .boolean) (e : stZ h ci a k x = some h2) (h4 : E d mc ms M (pc + 3) ls st h2 Q) : E d mc ms M pc ls (.int x :: .ref a :: st) h Q := by
  unfold stZ at e
  split at e
  · rename_i hk
    obtain ⟨hk, hz⟩ := hk
    cases e
    exact E_putI h1 hl hk (by rw [hr]; rfl) (by rw [hr]; rcases hz with rfl | rfl <;> decide) (by rw [hr]; rcases hz with rfl | rfl <;> decide) h4
  · cases e
theorem E_pR {idx ci k a b : Nat} {h2 : PH} (h1 : decode M.2.2.1 pc = .ok (.putfield idx, 3)) (hl : LinkP M.1 M.2.1.name idx ci k) (hr : isRf (fty ci k) = true) (e : stR h ci a k (some b) = some h2) (h4 : E d mc ms M (pc + 3) ls st h2 Q) : E d mc ms M pc ls (.ref b :: .ref a :: st) h Q := by
  unfold stR at e
  split at e
  · rename_i hk
    cases e
    exact E_putR (o := some b) h1 hl hk hr h4
  · cases e
theorem E_pN {idx ci k a : Nat} {h2 : PH} (h1 : decode M.2.2.1 pc = .ok (.putfield idx, 3)) (hl : LinkP M.1 M.2.1.name idx ci k) (hr : isRf (fty ci k) = true) (e : stR h ci a k none = some h2) (h4 : E d mc ms M (pc + 3) ls st h2 Q) : E d mc ms M pc ls (.null :: .ref a :: st) h Q := by
  unfold stR at e
  split at e
  · rename_i hk
    cases e
    exact E_putR (o := none) h1 hl hk hr h4
  · cases e
theorem isA_spec {a : Nat} {i : Int32} (e : isA h a i = true) : gK h a = (1, (gK h a).2) ∧ vp_in i (gK h a).2 := by
  unfold isA at e
  simp only [Bool.and_eq_true, beq_iff_eq] at e
  exact ⟨by rw [← e.1], inb_vp e.2⟩
theorem isQ_spec {a : Nat} {i : Int32} (e : isQ h a i = true) : gK h a = (2, (gK h a).2) ∧ vp_in i (gK h a).2 := by
  unfold isQ at e
  simp only [Bool.and_eq_true, beq_iff_eq] at e
  exact ⟨by rw [← e.1], inb_vp e.2⟩
theorem E_ra {a : Nat} {i v : Int32} (h1 : decode M.2.2.1 pc = .ok (.iaload, 1)) (e : rdA h a i = some v) (h4 : E d mc ms M (pc + 1) ls (.int v :: st) h Q) : E d mc ms M pc ls (.int i :: .ref a :: st) h Q := by
  unfold rdA at e
  split at e
  · rename_i hk
    cases e
    exact E_iald h1 (isA_spec hk).1 (isA_spec hk).2 h4
  · cases e
theorem E_wa {a : Nat} {i x : Int32} {h2 : PH} (h1 : decode M.2.2.1 pc = .ok (.iastore, 1)) (e : wrA h a i x = some h2) (h4 : E d mc ms M (pc + 1) ls st h2 Q) : E d mc ms M pc ls (.int x :: .int i :: .ref a :: st) h Q := by
  unfold wrA at e
  split at e
  · rename_i hk
    cases e
    exact E_iast h1 (isA_spec hk).1 (isA_spec hk).2 h4
  · cases e
theorem E_ln {a : Nat} {v : Int32} (h1 : decode M.2.2.1 pc = .ok (.arraylength, 1)) (e : lnA h a = some v) (h4 : E d mc ms M (pc + 1) ls (.int v :: st) h Q) : E d mc ms M pc ls (.ref a :: st) h Q := by
  unfold lnA at e
  split at e
  · rename_i hk
    cases e
    exact E_alen (n := (gK h a).2) h1 (by rw [← hk]) h4
  · cases e
theorem E_rq {a v : Nat} {i : Int32} (h1 : decode M.2.2.1 pc = .ok (.aaload, 1)) (e : rdQ h a i = some v) (h4 : E d mc ms M (pc + 1) ls (.ref v :: st) h Q) : E d mc ms M pc ls (.int i :: .ref a :: st) h Q := by
  unfold rdQ at e
  split at e
  · rename_i hk
    refine E_aald h1 (isQ_spec hk).1 (isQ_spec hk).2 ?_
    rw [e]
    exact h4
  · cases e
theorem E_wq {a b : Nat} {i : Int32} {h2 : PH} (h1 : decode M.2.2.1 pc = .ok (.aastore, 1)) (e : wrQ h a i b = some h2) (h4 : E d mc ms M (pc + 1) ls st h2 Q) : E d mc ms M pc ls (.ref b :: .int i :: .ref a :: st) h Q := by
  unfold wrQ at e
  split at e
  · rename_i hk
    cases e
    exact E_aast h1 (isQ_spec hk.1).1 hk.2 (isQ_spec hk.1).2 h4
  · cases e
theorem E_na {x : Int32} {lim mc' ms' : Nat} {h2 : PH} (h1 : decode M.2.2.1 pc = .ok (.newarray .int, 2)) (e : nwA h x lim = some h2) (hm : mc' + 1 ≤ mc) (hs : ms' + lim ≤ ms) (h4 : E d mc' ms' M (pc + 2) ls (.ref (gN h) :: st) h2 Q) : E d mc ms M pc ls (.int x :: st) h Q := by
  unfold nwA at e
  split at e
  · rename_i hk
    cases e
    exact E_newa h1 hk.1 (by omega) hm (by omega) h4
  · cases e
theorem E_nq {x : Int32} {idx lim mc' ms' : Nat} {h2 : PH} (h1 : decode M.2.2.1 pc = .ok (.anewarray idx, 3)) (hw : inT (.classLink M.1 idx RX5)) (e : nwQ h x lim = some h2) (hm : mc' + 1 ≤ mc) (hs : ms' + lim ≤ ms) (h4 : E d mc' ms' M (pc + 3) ls (.ref (gN h) :: st) h2 Q) : E d mc ms M pc ls (.int x :: st) h Q := by
  unfold nwQ at e
  split at e
  · rename_i hk
    cases e
    exact E_newr h1 hw hk.1 (by omega) hm (by omega) h4
  · cases e
theorem E_dv {x y v : Int32} (h1 : decode M.2.2.1 pc = .ok (.idiv, 1)) (e : dvI x y = some v) (h4 : E d mc ms M (pc + 1) ls (.int v :: st) h Q) : E d mc ms M pc ls (.int y :: .int x :: st) h Q := by
  unfold dvI at e
  split at e
  · cases e
  · rename_i hk
    cases e
    exact E_div h1 hk h4
theorem E_rm {x y v : Int32} (h1 : decode M.2.2.1 pc = .ok (.irem, 1)) (e : rmI x y = some v) (h4 : E d mc ms M (pc + 1) ls (.int v :: st) h Q) : E d mc ms M pc ls (.int y :: .int x :: st) h Q := by
  unfold rmI at e
  split at e
  · cases e
  · rename_i hk
    cases e
    exact E_rem h1 hk h4
theorem E_dl {x y v : Int64} (h1 : decode M.2.2.1 pc = .ok (.ldiv, 1)) (e : dvL x y = some v) (h4 : E d mc ms M (pc + 1) ls (.long v :: st) h Q) : E d mc ms M pc ls (.long y :: .long x :: st) h Q := by
  unfold dvL at e
  split at e
  · cases e
  · rename_i hk
    cases e
    exact E_ldiv h1 hk h4
theorem E_cp {a b idx : Nat} {sp dp n : Int32} {h2 : PH} (h1 : decode M.2.2.1 pc = .ok (.invokestatic idx, 3)) (hw : inT (.methodLink M.1 idx arraycopyName)) (hc : (st.map fun v => v.category).sum ≤ 8) (e : cpA h a sp b dp n = some h2) (h4 : E (d + 1) mc ms M (pc + 3) ls st h2 Q) : E (d + 1) mc ms M pc ls (.int n :: .int dp :: .ref b :: .int sp :: .ref a :: st) h Q := by
  unfold cpA at e
  split at e
  · rename_i hk
    cases e
    obtain ⟨⟨k1, k2, k3, k4⟩, ⟨k5, k6, k7⟩, k8, k9⟩ := hk
    have := E_copy (n1 := (gK h a).2) (n2 := (gK h b).2) (h := h) (ls := ls) (mc := mc) (ms := ms) (d := d) (Q := Q) (sp := sp.toNatClampNeg) (dp := dp.toNatClampNeg) (n := n.toNatClampNeg) h1 hw hc (by rw [← k1]) (by rw [← k2]) k8 k9 k3 k4 h4
    rw [← k5, ← k6, ← k7] at this
    exact this
  · cases e
theorem E_rI {x : Int32} {r : Int32 × PH} (h1 : decode M.2.2.1 pc = .ok (.ireturn, 1)) (hr : M.2.2.2.2 = some .int) (e : some (x, h) = some r) : E d mc ms M pc ls [.int x] h (PI r) := by
  cases e
  exact E_ret h1 rfl ⟨_, hr, rfl⟩ ⟨rfl, rfl⟩
theorem E_rZ {x : Int32} {r : Int32 × PH} (h1 : decode M.2.2.1 pc = .ok (.ireturn, 1)) (hr : M.2.2.2.2 = some .boolean) (e : rtZ x h = some r) : E d mc ms M pc ls [.int x] h (PI r) := by
  unfold rtZ at e
  split at e
  · rename_i hk
    cases e
    exact E_ret h1 rfl ⟨_, hr, by rcases hk with rfl | rfl <;> decide⟩ ⟨rfl, rfl⟩
  · cases e
theorem E_rC {x : Int32} {r : Int32 × PH} (h1 : decode M.2.2.1 pc = .ok (.ireturn, 1)) (hr : M.2.2.2.2 = some .char) (e : rtC x h = some r) : E d mc ms M pc ls [.int x] h (PI r) := by
  unfold rtC at e
  split at e
  · rename_i hk
    cases e
    refine E_ret h1 rfl ⟨_, hr, ?_⟩ ⟨rfl, rfl⟩
    have := pk_nc x
    rw [hk] at this
    exact this
  · cases e
theorem E_rB {x : Int32} {r : Int32 × PH} (h1 : decode M.2.2.1 pc = .ok (.ireturn, 1)) (hr : M.2.2.2.2 = some .byte) (e : rtB x h = some r) : E d mc ms M pc ls [.int x] h (PI r) := by
  unfold rtB at e
  split at e
  · rename_i hk
    cases e
    refine E_ret h1 rfl ⟨_, hr, ?_⟩ ⟨rfl, rfl⟩
    have := pk_nb x
    rw [hk] at this
    exact this
  · cases e
theorem E_rL {x : Int64} {r : Int64 × PH} (h1 : decode M.2.2.1 pc = .ok (.lreturn, 1)) (hr : M.2.2.2.2 = some .long) (e : some (x, h) = some r) : E d mc ms M pc ls [.long x] h (PL r) := by
  cases e
  exact E_ret h1 rfl hr ⟨rfl, rfl⟩
theorem E_rV {r : PH} (h1 : decode M.2.2.1 pc = .ok (.return_, 1)) (hr : M.2.2.2.2 = none) (e : some h = some r) : E d mc ms M pc ls [] h (PV r) := by
  cases e
  exact E_retv h1 hr ⟨rfl, rfl⟩
theorem E_rx {a : Nat} {i v : Int32} (h1 : decode M.2.2.1 pc = .ok (.baload, 1)) (e : rdX h a i = some v) (h4 : E d mc ms M (pc + 1) ls (.int v :: st) h Q) : E d mc ms M pc ls (.int i :: .ref a :: st) h Q := by
  unfold rdX at e
  split at e
  · rename_i hk
    cases e
    exact E_bald h1 hk.1 (inb_vp hk.2) h4
  · cases e
theorem E_lx {a : Nat} {v : Int32} (h1 : decode M.2.2.1 pc = .ok (.arraylength, 1)) (e : lnX h a = some v) (h4 : E d mc ms M (pc + 1) ls (.int v :: st) h Q) : E d mc ms M pc ls (.ref a :: st) h Q := by
  unfold lnX at e
  split at e
  · rename_i hk
    cases e
    exact E_alenX h1 hk h4
  · cases e
theorem E_rs {a : Nat} {i v : Int32} (h1 : decode M.2.2.1 pc = .ok (.iaload, 1)) (e : rdS h a i = some v) (h4 : E d mc ms M (pc + 1) ls (.int v :: st) h Q) : E d mc ms M pc ls (.int i :: .ref a :: st) h Q := by
  unfold rdS at e
  split at e
  · rename_i hk
    cases e
    exact E_sld h1 hk.1 (inb_vp hk.2) h4
  · cases e
theorem E_ls {a : Nat} {v : Int32} (h1 : decode M.2.2.1 pc = .ok (.arraylength, 1)) (e : lnS h a = some v) (h4 : E d mc ms M (pc + 1) ls (.int v :: st) h Q) : E d mc ms M pc ls (.ref a :: st) h Q := by
  unfold lnS at e
  split at e
  · rename_i hk
    cases e
    exact E_slen h1 hk h4
  · cases e
theorem E_gvX {a idx v : Nat} (h1 : decode M.2.2.1 pc = .ok (.getfield idx, 3)) (hw : inT (.fieldLink M.1 idx "java/lang/String" "value" "[B")) (e : gvX h a = some v) (h4 : E d mc ms M (pc + 3) ls (.ref v :: st) h Q) : E d mc ms M pc ls (.ref a :: st) h Q := by
  unfold gvX at e
  split at e
  · rename_i hk
    cases e
    exact E_getXv h1 hw hk h4
  · cases e
theorem E_gcX {a idx : Nat} {v : Int32} (h1 : decode M.2.2.1 pc = .ok (.getfield idx, 3)) (hw : inT (.fieldLink M.1 idx "java/lang/String" "coder" "B")) (e : gcX h a = some v) (h4 : E d mc ms M (pc + 3) ls (.int v :: st) h Q) : E d mc ms M pc ls (.ref a :: st) h Q := by
  unfold gcX at e
  split at e
  · rename_i hk
    cases e
    exact E_getXc h1 hw hk h4
  · cases e
theorem E_nullR {off : Int} {a : Nat} (tgt : Nat) (h1 : decode M.2.2.1 pc = .ok (.ifnull off, 3)) (ht : (pc : Int) + off = (tgt : Nat)) (h4 : E d mc ms M (pc + 3) ls st h Q) : E d mc ms M pc ls (.ref a :: st) h Q := E_null (o := some a) h1 ht (fun z => by cases z) (fun _ _ => h4)
theorem E_nonnullR {off : Int} {a : Nat} (tgt : Nat) (h1 : decode M.2.2.1 pc = .ok (.ifnonnull off, 3)) (ht : (pc : Int) + off = (tgt : Nat)) (h4 : E d mc ms M tgt ls st h Q) : E d mc ms M pc ls (.ref a :: st) h Q := E_nonnull (o := some a) h1 ht (fun _ _ => h4) (fun z => by cases z)
theorem E_iadd {x y : Int32} (h1 : decode M.2.2.1 pc = .ok (.iadd, 1)) (h4 : E d mc ms M (pc + 1) ls (.int (x + y) :: st) h Q) : E d mc ms M pc ls (.int y :: .int x :: st) h Q := E_op h1 rfl h4
theorem E_isub {x y : Int32} (h1 : decode M.2.2.1 pc = .ok (.isub, 1)) (h4 : E d mc ms M (pc + 1) ls (.int (x - y) :: st) h Q) : E d mc ms M pc ls (.int y :: .int x :: st) h Q := E_op h1 rfl h4
theorem E_imul {x y : Int32} (h1 : decode M.2.2.1 pc = .ok (.imul, 1)) (h4 : E d mc ms M (pc + 1) ls (.int (x * y) :: st) h Q) : E d mc ms M pc ls (.int y :: .int x :: st) h Q := E_op h1 rfl h4
theorem E_iand {x y : Int32} (h1 : decode M.2.2.1 pc = .ok (.iand, 1)) (h4 : E d mc ms M (pc + 1) ls (.int (x &&& y) :: st) h Q) : E d mc ms M pc ls (.int y :: .int x :: st) h Q := E_op h1 rfl h4
theorem E_ior {x y : Int32} (h1 : decode M.2.2.1 pc = .ok (.ior, 1)) (h4 : E d mc ms M (pc + 1) ls (.int (x ||| y) :: st) h Q) : E d mc ms M pc ls (.int y :: .int x :: st) h Q := E_op h1 rfl h4
theorem E_ixor {x y : Int32} (h1 : decode M.2.2.1 pc = .ok (.ixor, 1)) (h4 : E d mc ms M (pc + 1) ls (.int (x ^^^ y) :: st) h Q) : E d mc ms M pc ls (.int y :: .int x :: st) h Q := E_op h1 rfl h4
theorem E_ishl {x y : Int32} (h1 : decode M.2.2.1 pc = .ok (.ishl, 1)) (h4 : E d mc ms M (pc + 1) ls (.int (jshl x y) :: st) h Q) : E d mc ms M pc ls (.int y :: .int x :: st) h Q := E_op h1 rfl h4
theorem E_ishr {x y : Int32} (h1 : decode M.2.2.1 pc = .ok (.ishr, 1)) (h4 : E d mc ms M (pc + 1) ls (.int (jshr x y) :: st) h Q) : E d mc ms M pc ls (.int y :: .int x :: st) h Q := E_op h1 rfl h4
theorem E_iushr {x y : Int32} (h1 : decode M.2.2.1 pc = .ok (.iushr, 1)) (h4 : E d mc ms M (pc + 1) ls (.int (jush x y) :: st) h Q) : E d mc ms M pc ls (.int y :: .int x :: st) h Q := E_op h1 rfl h4
theorem E_ineg {x : Int32} (h1 : decode M.2.2.1 pc = .ok (.ineg, 1)) (h4 : E d mc ms M (pc + 1) ls (.int (-x) :: st) h Q) : E d mc ms M pc ls (.int x :: st) h Q := E_op h1 rfl h4
theorem E_i2l {x : Int32} (h1 : decode M.2.2.1 pc = .ok (.i2l, 1)) (h4 : E d mc ms M (pc + 1) ls (.long x.toInt64 :: st) h Q) : E d mc ms M pc ls (.int x :: st) h Q := E_op h1 rfl h4
theorem E_l2i {x : Int64} (h1 : decode M.2.2.1 pc = .ok (.l2i, 1)) (h4 : E d mc ms M (pc + 1) ls (.int x.toInt32 :: st) h Q) : E d mc ms M pc ls (.long x :: st) h Q := E_op h1 rfl h4
theorem E_i2c {x : Int32} (h1 : decode M.2.2.1 pc = .ok (.i2c, 1)) (h4 : E d mc ms M (pc + 1) ls (.int (x.toUInt32 % 65536).toInt32 :: st) h Q) : E d mc ms M pc ls (.int x :: st) h Q := E_op h1 rfl h4
theorem E_ladd {x y : Int64} (h1 : decode M.2.2.1 pc = .ok (.ladd, 1)) (h4 : E d mc ms M (pc + 1) ls (.long (x + y) :: st) h Q) : E d mc ms M pc ls (.long y :: .long x :: st) h Q := E_op h1 rfl h4
theorem E_lmul {x y : Int64} (h1 : decode M.2.2.1 pc = .ok (.lmul, 1)) (h4 : E d mc ms M (pc + 1) ls (.long (x * y) :: st) h Q) : E d mc ms M pc ls (.long y :: .long x :: st) h Q := E_op h1 rfl h4
theorem E_lcmp {x y : Int64} (h1 : decode M.2.2.1 pc = .ok (.lcmp, 1)) (h4 : E d mc ms M (pc + 1) ls (.int (lg_cmp x y) :: st) h Q) : E d mc ms M pc ls (.long y :: .long x :: st) h Q := E_op h1 rfl h4
theorem E_dupi {x : Int32} (h1 : decode M.2.2.1 pc = .ok (.dup, 1)) (h4 : E d mc ms M (pc + 1) ls (.int x :: .int x :: st) h Q) : E d mc ms M pc ls (.int x :: st) h Q := E_op h1 rfl h4
theorem E_dupr {x : Nat} (h1 : decode M.2.2.1 pc = .ok (.dup, 1)) (h4 : E d mc ms M (pc + 1) ls (.ref x :: .ref x :: st) h Q) : E d mc ms M pc ls (.ref x :: st) h Q := E_op h1 rfl h4
theorem E_popi {x : Int32} (h1 : decode M.2.2.1 pc = .ok (.pop, 1)) (h4 : E d mc ms M (pc + 1) ls st h Q) : E d mc ms M pc ls (.int x :: st) h Q := E_op h1 rfl h4
theorem E_dup2 {x : Int32} {y : Nat} (h1 : decode M.2.2.1 pc = .ok (.dup2, 1)) (h4 : E d mc ms M (pc + 1) ls (.int x :: .ref y :: .int x :: .ref y :: st) h Q) : E d mc ms M pc ls (.int x :: .ref y :: st) h Q := E_op h1 rfl h4
theorem E_dupx1 {x : Int32} {y : Nat} (h1 : decode M.2.2.1 pc = .ok (.dup_x1, 1)) (h4 : E d mc ms M (pc + 1) ls (.int x :: .ref y :: .int x :: st) h Q) : E d mc ms M pc ls (.int x :: .ref y :: st) h Q := E_op h1 rfl h4
theorem E_nul (h1 : decode M.2.2.1 pc = .ok (.aconst_null, 1)) (h4 : E d mc ms M (pc + 1) ls (.null :: st) h Q) : E d mc ms M pc ls st h Q := E_op h1 rfl h4
end OPS
