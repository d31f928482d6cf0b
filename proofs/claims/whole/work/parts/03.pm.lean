/-! THE PURE MACHINE: a heap of ints, references and kinds; rules, one a kind of instruction -/
/-- what lies outside and is only read: the text of words (its cell, its bytes' cell), the script (its cell, its length, its ints) -/
abbrev XS : Type := Nat × Nat × Nat × Nat × (Nat → Int32)
abbrev PH : Type := (Nat → Nat → Int32) × (Nat → Nat → Option Nat) × (Nat → Nat × Nat) × Nat × XS
def gI (h : PH) (a k : Nat) : Int32 := h.1 a k
def gR (h : PH) (a k : Nat) : Option Nat := h.2.1 a k
def gK (h : PH) (a : Nat) : Nat × Nat := h.2.2.1 a
def gN (h : PH) : Nat := h.2.2.2.1
def gX (h : PH) : XS := h.2.2.2.2
def sI (h : PH) (a k : Nat) (v : Int32) : PH := (fun b j => if b = a ∧ j = k then v else h.1 b j, h.2)
def sR (h : PH) (a k : Nat) (v : Option Nat) : PH := (h.1, fun b j => if b = a ∧ j = k then v else h.2.1 b j, h.2.2)
def nw (h : PH) (kd : Nat × Nat) : PH := (fun b j => if b = gN h then 0 else h.1 b j, fun b j => if b = gN h then none else h.2.1 b j, fun b => if b = gN h then kd else h.2.2.1 b, gN h + 1, gX h)
def cpI (h : PH) (a sp b dp n : Nat) : PH := (fun q j => if q = b ∧ dp ≤ j ∧ j < dp + n then h.1 a (sp + (j - dp)) else h.1 q j, h.2)
def jshl (x y : Int32) : Int32 := x <<< (y &&& 31)
def jshr (x y : Int32) : Int32 := x >>> (y &&& 31)
def jush (x y : Int32) : Int32 := (x.toUInt32 >>> (y.toUInt32 &&& Int32.toUInt32 31)).toInt32
def jrem (x y : Int32) : Int32 := x - x / y * y
def jmax (x y : Int32) : Int32 := if x < y then y else x
def jmin (x y : Int32) : Int32 := if y < x then y else x
/-- the classes whose objects the heap holds -/
abbrev clsOf : List vw_C := [(RX0, TX0, 6), (RX1, TX1, 7), (RX2, TX2, 5), (RX3, TX3, 3), (RX4, TX4, 11), (RX5, TX5, 20), (RX6, TX6, 3), (RX7, TX7, 10), (RX8, TX8, 6), (RX9, TX9, 74)]
def fty (c : Nat) : Nat → FieldType := match c with
  | 0 => tyX0 | 1 => tyX1 | 2 => tyX2 | 3 => tyX3 | 4 => tyX4 | 5 => tyX5 | 6 => tyX6 | 7 => tyX7 | 8 => tyX8 | _ => tyX9
def cN (c : Nat) : Nat := match c with
  | 0 => 6 | 1 => 7 | 2 => 5 | 3 => 3 | 4 => 11 | 5 => 20 | 6 => 3 | 7 => 10 | 8 => 6 | _ => 74
def isRf (t : FieldType) : Bool := match t with
  | .object _ => true
  | .array _ => true
  | _ => false
def fv (h : PH) (c a k : Nat) : Value := if isRf (fty c k) = true then va_rf (gR h a k) else .int (gI h a k)
def cellE (cI cR : ClassId) (h : PH) (a : Nat) : va_E := match gK h a with
  | (0, c) => .inr (c, (List.range (cN c)).map (fv h c a))
  | (1, n) => .inl (cI, n, .inl (gI h a))
  | (_, n) => .inl (cR, n, .inr (.inr (.inr (.inr (gR h a)))))
def Rep (b0 : Nat) (D : va_G) (cI cR : ClassId) (xs : XS) (h : PH) (H : Heap) : Prop :=
  H.size = gN h ∧ b0 ≤ gN h ∧ gX h = xs ∧ ∀ a, (gK h a).1 < 3 → b0 ≤ a ∧ a < gN h ∧ va_at D clsOf (a, cellE cI cR h a) H
/-- a method: its class, name, bytes, locals, answer -/
abbrev MT : Type := String × MethodName × ByteArray × Nat × Option FieldType
abbrev PX : Type := Nat → Nat → Nat → MT → Nat → List (Nat × Value) → List Value → PH → (Option Value → PH → Prop) → Prop
/-- words that the tables hold, and that stay -/
def inT (w : Cond) : Prop := w ∈ lw_tbl ∧ goodWord w = true
def gtbl : List Cond := lw_tbl.filter goodWord
theorem inT_g {w : Cond} (h : inT w) : w ∈ gtbl := List.mem_filter.mpr h
theorem inT_of {w : Cond} (i : Nat) (h : lw_tbl[i]? = some w) (hg : goodWord w = true) : inT w := ⟨List.mem_of_getElem? h, hg⟩
def hasW (l : List Cond) (j : Nat) (w : Cond) : Bool := decide (l[j]? = some w) && goodWord w
theorem hasW_in {l : List Cond} {j : Nat} {w : Cond} (h : hasW l j w = true) : w ∈ l ∧ goodWord w = true := by
  unfold hasW at h
  simp only [Bool.and_eq_true, decide_eq_true_eq] at h
  exact ⟨List.mem_of_getElem? h.1, h.2⟩
theorem inT_0 {w : Cond} (j : Nat) (h : hasW (k2_sels lw_privs) j w = true) : inT w := ⟨List.mem_append.mpr (Or.inl (hasW_in h).1), (hasW_in h).2⟩
theorem inT_t {w : Cond} (h : w ∈ tables_1) (g : goodWord w = true) : inT w := ⟨List.mem_append.mpr (Or.inr h), g⟩
theorem inT_1 {w : Cond} (j : Nat) (h : hasW tables_1_1 j w = true) : inT w := inT_t (List.mem_append.mpr (Or.inl ((hasW_in h).1))) (hasW_in h).2
theorem inT_2 {w : Cond} (j : Nat) (h : hasW tables_1_2 j w = true) : inT w := inT_t (List.mem_append.mpr (Or.inr (List.mem_append.mpr (Or.inl ((hasW_in h).1))))) (hasW_in h).2
theorem inT_3 {w : Cond} (j : Nat) (h : hasW tables_1_3 j w = true) : inT w := inT_t (List.mem_append.mpr (Or.inr (List.mem_append.mpr (Or.inr (List.mem_append.mpr (Or.inl ((hasW_in h).1))))))) (hasW_in h).2
theorem inT_4 {w : Cond} (j : Nat) (h : hasW tables_1_4 j w = true) : inT w := inT_t (List.mem_append.mpr (Or.inr (List.mem_append.mpr (Or.inr (List.mem_append.mpr (Or.inr (List.mem_append.mpr (Or.inl ((hasW_in h).1))))))))) (hasW_in h).2
theorem inT_5 {w : Cond} (j : Nat) (h : hasW tables_1_5 j w = true) : inT w := inT_t (List.mem_append.mpr (Or.inr (List.mem_append.mpr (Or.inr (List.mem_append.mpr (Or.inr (List.mem_append.mpr (Or.inr (List.mem_append.mpr (Or.inl ((hasW_in h).1))))))))))) (hasW_in h).2
theorem inT_6 {w : Cond} (j : Nat) (h : hasW tables_1_6 j w = true) : inT w := inT_t (List.mem_append.mpr (Or.inr (List.mem_append.mpr (Or.inr (List.mem_append.mpr (Or.inr (List.mem_append.mpr (Or.inr (List.mem_append.mpr (Or.inr (List.mem_append.mpr (Or.inl ((hasW_in h).1))))))))))))) (hasW_in h).2
theorem inT_7 {w : Cond} (j : Nat) (h : hasW tables_1_7 j w = true) : inT w := inT_t (List.mem_append.mpr (Or.inr (List.mem_append.mpr (Or.inr (List.mem_append.mpr (Or.inr (List.mem_append.mpr (Or.inr (List.mem_append.mpr (Or.inr (List.mem_append.mpr (Or.inr (List.mem_append.mpr (Or.inl ((hasW_in h).1))))))))))))))) (hasW_in h).2
theorem inT_8 {w : Cond} (j : Nat) (h : hasW tables_1_8 j w = true) : inT w := inT_t (List.mem_append.mpr (Or.inr (List.mem_append.mpr (Or.inr (List.mem_append.mpr (Or.inr (List.mem_append.mpr (Or.inr (List.mem_append.mpr (Or.inr (List.mem_append.mpr (Or.inr (List.mem_append.mpr (Or.inr ((hasW_in h).1))))))))))))))) (hasW_in h).2
def LinkF (own : String) (idx ci k : Nat) : Prop := ∃ q : vw_C, clsOf[ci]? = some q ∧ k < q.2.2 ∧ inT (.fieldLink own idx (q.2.1 k).1 (q.2.1 k).2.1 (q.2.1 k).2.2.1)
def LinkP (own nm : String) (idx ci k : Nat) : Prop := ∃ q : vw_C, clsOf[ci]? = some q ∧ k < q.2.2 ∧ inT (.fieldLink own idx (q.2.1 k).1 (q.2.1 k).2.1 (q.2.1 k).2.2.1) ∧ ((q.2.1 k).2.2.2 = false ∨ ((q.2.1 k).2.2.2 = true ∧ nm = "<init>" ∧ (q.2.1 k).1 = own))
def LinkN (own : String) (idx ci : Nat) : Prop := ∃ q : vw_C, clsOf[ci]? = some q ∧ inT (.classLink own idx q.1) ∧ inT (.instantiable q.1 q.2.2) ∧ inT (.initialized q.1)
/-- the links to nest mates' private members -/
def nestL : List (String × Nat × MethodName) := [("TearCustoms", 9, ⟨"TearCustoms$Land", "<init>", "()V"⟩), ("TearCustoms$Land", 11, ⟨"TearCustoms$Realm", "<init>", "()V"⟩), ("TearCustoms$Land", 24, ⟨"TearCustoms$Law", "<init>", "()V"⟩), ("TearCustoms$Land", 46, ⟨"TearCustoms$Told", "<init>", "()V"⟩), ("TearCustoms$Log", 24, ⟨"TearCustoms$Realm", "<init>", "()V"⟩), ("TearCustoms", 25, ⟨"TearCustoms$Reader", "<init>", "()V"⟩), ("TearCustoms$Reader", 27, ⟨"TearCustoms$Law", "<init>", "()V"⟩), ("TearCustoms", 32, ⟨"TearCustoms$Realm", "<init>", "()V"⟩), ("TearCustoms", 39, ⟨"TearCustoms$Desk", "<init>", "()V"⟩), ("TearCustoms$Realm", 83, ⟨"TearCustoms", "within", "(II)Z"⟩), ("TearCustoms$Law", 99, ⟨"TearCustoms", "held", "(II)I"⟩), ("TearCustoms$Reader", 151, ⟨"TearCustoms", "within", "(II)Z"⟩), ("TearCustoms$Land", 70, ⟨"TearCustoms", "within", "(II)Z"⟩), ("TearCustoms$Desk", 73, ⟨"TearCustoms", "within", "(II)Z"⟩), ("TearCustoms$Told", 59, ⟨"TearCustoms", "within", "(II)Z"⟩)]
/-- the words of a call -/
def CkB (own : String) (idx : Nat) (M : MT) (n : Nat) : Prop := (inT (.methodLink own idx M.2.1) ∨ (own, idx, M.2.1) ∈ nestL) ∧ inT (.initialized M.2.1.cls) ∧ inT (.code M.2.1 M.2.2.1 M.2.2.2.1 M.2.2.2.2) ∧ M.1 = M.2.1.cls ∧ (M.2.1.cls ≠ "java/lang/invoke/MethodHandle" ∧ M.2.1.cls ≠ "java/lang/invoke/VarHandle" ∧ (parseMethodDescriptor M.2.1.desc).map (fun d => d.parameters.length) = some n) ∧ plainName M.2.1.cls = true ∧ M.2.2.2.1 ≤ 45
def CkV (own : String) (idx : Nat) (M : MT) (n : Nat) : Prop := CkB own idx M n ∧ inT (.instanceMethod M.2.1) ∧ inT (.selects M.2.1.cls M.2.1 M.2.1)
def CkS (own : String) (idx : Nat) (M : MT) (n : Nat) : Prop := CkB own idx M n ∧ inT (.static M.2.1)
def CkI (own : String) (idx : Nat) (M : MT) (n : Nat) : Prop := CkB own idx M n ∧ M.2.1.name = "<init>" ∧ inT (.instanceMethod M.2.1) ∧ M.2.2.2.2 = none
/-- instructions on the stack alone -/
def opv (i : Instr) (st : List Value) : Option (Nat × List Value) := match i, st with
  | .iadd, .int y :: .int x :: r => some (1, .int (x + y) :: r)
  | .isub, .int y :: .int x :: r => some (1, .int (x - y) :: r)
  | .imul, .int y :: .int x :: r => some (1, .int (x * y) :: r)
  | .iand, .int y :: .int x :: r => some (1, .int (x &&& y) :: r)
  | .ior, .int y :: .int x :: r => some (1, .int (x ||| y) :: r)
  | .ixor, .int y :: .int x :: r => some (1, .int (x ^^^ y) :: r)
  | .ishl, .int y :: .int x :: r => some (1, .int (jshl x y) :: r)
  | .ishr, .int y :: .int x :: r => some (1, .int (jshr x y) :: r)
  | .iushr, .int y :: .int x :: r => some (1, .int (jush x y) :: r)
  | .ineg, .int x :: r => some (1, .int (-x) :: r)
  | .i2l, .int x :: r => some (1, .long x.toInt64 :: r)
  | .l2i, .long x :: r => some (1, .int x.toInt32 :: r)
  | .i2c, .int x :: r => some (1, .int (x.toUInt32 % 65536).toInt32 :: r)
  | .ladd, .long y :: .long x :: r => some (1, .long (x + y) :: r)
  | .lmul, .long y :: .long x :: r => some (1, .long (x * y) :: r)
  | .lcmp, .long y :: .long x :: r => some (1, .int (lg_cmp x y) :: r)
  | .dup, .int x :: r => some (1, .int x :: .int x :: r)
  | .dup, .ref x :: r => some (1, .ref x :: .ref x :: r)
  | .pop, .int x :: r => some (1, r)
  | .pop, .ref x :: r => some (1, r)
  | .dup2, .int x :: .ref y :: r => some (1, .int x :: .ref y :: .int x :: .ref y :: r)
  | .dup2, .int x :: .int y :: r => some (1, .int x :: .int y :: .int x :: .int y :: r)
  | .dup_x1, .int x :: .ref y :: r => some (1, .int x :: .ref y :: .int x :: r)
  | .aconst_null, r => some (1, .null :: r)
  | _, _ => none
def cstv (i : Instr) : Option (Nat × Value) := match i with
  | .iconst n => some (1, .int (Int32.ofInt n))
  | .bipush n => some (2, .int (Int8.ofInt n).toInt32)
  | .sipush n => some (3, .int (Int16.ofInt n).toInt32)
  | .lconst n => some (1, .long (Int64.ofNat (n : Nat)))
  | _ => none
def ldv (i : Instr) (v : Value) : Option (Nat × Nat) := match i, v with
  | .iload_n k, .int _ => some ((k : Nat), 1)
  | .iload k, .int _ => some (k, 2)
  | .aload_n k, .ref _ => some ((k : Nat), 1)
  | .aload k, .ref _ => some (k, 2)
  | .lload_n k, .long _ => some ((k : Nat), 1)
  | .lload k, .long _ => some (k, 2)
  | _, _ => none
def stl1 (k : Nat) (v : Value) (ls : List (Nat × Value)) : List (Nat × Value) := (k, v) :: ls.filter (fun q => !(q.1 == k) && !(q.1 + 1 == k && q.2.category == 2))
def stl2 (k : Nat) (v : Value) (ls : List (Nat × Value)) : List (Nat × Value) := (k, v) :: ls.filter (fun q => !(q.1 == k) && (!(q.1 == k + 1) && !(q.1 + 1 == k && q.2.category == 2)))
def stv (i : Instr) (v : Value) (nL : Nat) (ls : List (Nat × Value)) : Option (Nat × List (Nat × Value)) := match i, v with
  | .istore_n k, .int _ => if (k : Nat) < nL then some (1, stl1 k v ls) else none
  | .istore k, .int _ => if k < nL then some (2, stl1 k v ls) else none
  | .astore_n k, .ref _ => if (k : Nat) < nL then some (1, stl1 k v ls) else none
  | .astore k, .ref _ => if k < nL then some (2, stl1 k v ls) else none
  | .lstore_n k, .long _ => if (k : Nat) + 1 < nL then some (1, stl2 k v ls) else none
  | .lstore k, .long _ => if k + 1 < nL then some (2, stl2 k v ls) else none
  | _, _ => none
/-- what a branch asks -/
def cmpP (c : ClassFile.Cond) (x y : Int32) : Prop := match c with
  | .eq => x = y
  | .ne => ¬ x = y
  | .lt => x < y
  | .ge => y ≤ x
  | .gt => y < x
  | .le => x ≤ y
/-- an answer fits its method's type -/
def retOK (r : Option FieldType) (v : Value) : Prop := match v with
  | .int x => ∃ ty, r = some ty ∧ narrow ty (.int x) = .int x
  | .long _ => r = some .long
  | _ => False
def retI (i : Instr) (v : Value) : Prop := match v with
  | .int _ => i = .ireturn
  | .long _ => i = .lreturn
  | _ => False
