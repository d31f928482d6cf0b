/-! ===== the start, reckoned once from 0 on ===== -/
def H00 : PH := h00 0 (0, 0, 0, 0, fun _ => 0)
def cH2 : Option PH := f_Tc_init 0 (nw H00 (0, 8))
def cH4 : Option PH := cH2.bind fun H2 => f_Mo_init 131 (nw H2 (0, 9))
def H2c : PH := cH2.getD H00
def H4c : PH := cH4.getD H00
theorem cH2_n : cH2.map (fun H => gN H) = some 131 := by decide +kernel
theorem cH4_n : cH4.map (fun H => gN H) = some 174 := by decide +kernel
theorem getD_map {α β : Type} {x : Option α} {f : α → β} {v : β} {d : α} (h : x.map f = some v) : x = some (x.getD d) ∧ f (x.getD d) = v := by
  cases x with
  | none => cases h
  | some a => exact ⟨rfl, by injection h⟩
theorem H2_e : cH2 = some H2c ∧ gN H2c = 131 := getD_map cH2_n
theorem H4_e : cH4 = some H4c ∧ gN H4c = 174 := getD_map cH4_n
set_option maxRecDepth 100000 in
theorem H4_K : ∀ o : Fin 174, gK H4c o.val = KT o.val := by decide +kernel
theorem H4_R' : gR H4c 124 4 = some 129 ∧ gR H4c 124 5 = some 130 ∧ gR H4c 0 5 = none := by decide +kernel
def IL0 : List (Nat × Nat × Int32) := [(131, 0, 0), (131, 3, 0), (131, 5, 0), (131, 6, 0), (131, 7, 0), (131, 14, 0), (131, 34, 0), (131, 36, 0), (131, 38, 0), (131, 40, 0), (131, 44, 0), (131, 48, 0), (131, 52, 0), (131, 55, 0), (131, 56, 0), (131, 63, 0), (131, 68, 0), (131, 69, 0), (131, 71, 0), (131, 35, -1), (132, 0, 0), (132, 1, 0), (132, 2, 0), (132, 3, 0), (132, 4, 0), (132, 5, 0), (132, 6, 0), (2, 0, 0), (2, 1, 0), (2, 7, 0), (2, 8, 0), (2, 9, 0), (2, 15, 0), (2, 16, 0), (2, 17, 0), (2, 18, 0), (2, 19, 0), (2, 14, 15), (13, 2, 0), (142, 0, 0), (25, 8, 0), (25, 9, 0), (40, 1, 0), (40, 2, 0), (102, 1, 0), (102, 2, 0), (102, 3, -1), (14, 0, 4), (14, 2, 0), (19, 0, 4), (19, 2, 0), (21, 0, 4), (21, 2, 0), (23, 0, 4), (23, 2, 0), (26, 0, 3), (26, 2, 0), (28, 0, 2), (28, 2, 0), (30, 0, 1), (30, 2, 0), (32, 0, 1), (32, 2, 0), (34, 0, 2), (34, 2, 0), (36, 0, 1), (36, 2, 0), (105, 0, 4), (105, 2, 0), (110, 0, 4), (110, 2, 0)]
set_option maxRecDepth 100000 in
theorem H4_I : IL0.all (fun t => gI H4c t.1 t.2.1 == t.2.2) = true := by decide +kernel
theorem H4_i {o j : Nat} {v : Int32} (h : (o, j, v) ∈ IL0) : gI H4c o j = v := by
  have := List.all_eq_true.mp H4_I _ h
  simpa using this
set_option maxRecDepth 100000 in
theorem H4_12 : ∀ j : Fin 600, gI H4c 12 j.val = 0 ∧ gI H4c 139 j.val = 0 := by decide +kernel
set_option maxRecDepth 100000 in
theorem H4_103 : ∀ j : Fin 400, gI H4c 103 j.val = 0 ∧ gI H4c 140 j.val = 0 := by decide +kernel
set_option maxRecDepth 100000 in
theorem H4_24 : ∀ j : Fin 24, gI H4c 38 j.val = 0 ∧ gI H4c 168 j.val = 0 ∧ gI H4c 39 j.val = 0 ∧ gI H4c 172 j.val = 0 := by decide +kernel
set_option maxRecDepth 100000 in
theorem H4_12b : ∀ j : Fin 12, gI H4c 150 j.val = 0 ∧ gI H4c 158 j.val = 0 := by decide +kernel
set_option maxRecDepth 100000 in
theorem H4_141 : ∀ j : Fin 144, gI H4c 141 j.val = mwords.getD j.val 0 := by decide +kernel
