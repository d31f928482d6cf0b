theorem RT_hi {o k : Nat} (h : 174 ≤ o) : RT o k = none := by
  unfold RT
  delta RT.match_1
  repeat rw [dif_neg (by omega)]
set_option maxHeartbeats 8000000 in
theorem RT_k {o k : Nat} (h : 80 ≤ k) : RT o k = none := by
  by_cases z0 : o = 0
  · subst z0
    unfold RT
    delta RT.match_1
    repeat rw [dif_neg (by omega)]
    rw [dif_pos (by omega)]
    repeat rw [dif_neg (by omega)]
  by_cases z1 : o = 1
  · subst z1
    unfold RT
    delta RT.match_1
    repeat rw [dif_neg (by omega)]
    rw [dif_pos (by omega)]
    repeat rw [dif_neg (by omega)]
  by_cases z2 : o = 2
  · subst z2
    unfold RT
    delta RT.match_1
    repeat rw [dif_neg (by omega)]
    rw [dif_pos (by omega)]
    repeat rw [dif_neg (by omega)]
  by_cases z13 : o = 13
  · subst z13
    unfold RT
    delta RT.match_1
    repeat rw [dif_neg (by omega)]
    rw [dif_pos (by omega)]
    repeat rw [dif_neg (by omega)]
  by_cases z14 : o = 14
  · subst z14
    unfold RT
    delta RT.match_1
    repeat rw [dif_neg (by omega)]
    rw [dif_pos (by omega)]
    repeat rw [dif_neg (by omega)]
  by_cases z19 : o = 19
  · subst z19
    unfold RT
    delta RT.match_1
    repeat rw [dif_neg (by omega)]
    rw [dif_pos (by omega)]
    repeat rw [dif_neg (by omega)]
  by_cases z21 : o = 21
  · subst z21
    unfold RT
    delta RT.match_1
    repeat rw [dif_neg (by omega)]
    rw [dif_pos (by omega)]
    repeat rw [dif_neg (by omega)]
  by_cases z23 : o = 23
  · subst z23
    unfold RT
    delta RT.match_1
    repeat rw [dif_neg (by omega)]
    rw [dif_pos (by omega)]
    repeat rw [dif_neg (by omega)]
  by_cases z25 : o = 25
  · subst z25
    unfold RT
    delta RT.match_1
    repeat rw [dif_neg (by omega)]
    rw [dif_pos (by omega)]
    repeat rw [dif_neg (by omega)]
  by_cases z26 : o = 26
  · subst z26
    unfold RT
    delta RT.match_1
    repeat rw [dif_neg (by omega)]
    rw [dif_pos (by omega)]
    repeat rw [dif_neg (by omega)]
  by_cases z28 : o = 28
  · subst z28
    unfold RT
    delta RT.match_1
    repeat rw [dif_neg (by omega)]
    rw [dif_pos (by omega)]
    repeat rw [dif_neg (by omega)]
  by_cases z30 : o = 30
  · subst z30
    unfold RT
    delta RT.match_1
    repeat rw [dif_neg (by omega)]
    rw [dif_pos (by omega)]
    repeat rw [dif_neg (by omega)]
  by_cases z32 : o = 32
  · subst z32
    unfold RT
    delta RT.match_1
    repeat rw [dif_neg (by omega)]
    rw [dif_pos (by omega)]
    repeat rw [dif_neg (by omega)]
  by_cases z34 : o = 34
  · subst z34
    unfold RT
    delta RT.match_1
    repeat rw [dif_neg (by omega)]
    rw [dif_pos (by omega)]
    repeat rw [dif_neg (by omega)]
  by_cases z36 : o = 36
  · subst z36
    unfold RT
    delta RT.match_1
    repeat rw [dif_neg (by omega)]
    rw [dif_pos (by omega)]
    repeat rw [dif_neg (by omega)]
  by_cases z40 : o = 40
  · subst z40
    unfold RT
    delta RT.match_1
    repeat rw [dif_neg (by omega)]
    rw [dif_pos (by omega)]
    repeat rw [dif_neg (by omega)]
  by_cases z41 : o = 41
  · subst z41
    unfold RT
    delta RT.match_1
    repeat rw [dif_neg (by omega)]
    rw [dif_pos (by omega)]
    repeat rw [dif_neg (by omega)]
  by_cases z42 : o = 42
  · subst z42
    unfold RT
    delta RT.match_1
    repeat rw [dif_neg (by omega)]
    rw [dif_pos (by omega)]
    repeat rw [dif_neg (by omega)]
  by_cases z52 : o = 52
  · subst z52
    unfold RT
    delta RT.match_1
    repeat rw [dif_neg (by omega)]
    rw [dif_pos (by omega)]
    repeat rw [dif_neg (by omega)]
  by_cases z62 : o = 62
  · subst z62
    unfold RT
    delta RT.match_1
    repeat rw [dif_neg (by omega)]
    rw [dif_pos (by omega)]
    repeat rw [dif_neg (by omega)]
  by_cases z72 : o = 72
  · subst z72
    unfold RT
    delta RT.match_1
    repeat rw [dif_neg (by omega)]
    rw [dif_pos (by omega)]
    repeat rw [dif_neg (by omega)]
  by_cases z82 : o = 82
  · subst z82
    unfold RT
    delta RT.match_1
    repeat rw [dif_neg (by omega)]
    rw [dif_pos (by omega)]
    repeat rw [dif_neg (by omega)]
  by_cases z92 : o = 92
  · subst z92
    unfold RT
    delta RT.match_1
    repeat rw [dif_neg (by omega)]
    rw [dif_pos (by omega)]
    repeat rw [dif_neg (by omega)]
  by_cases z102 : o = 102
  · subst z102
    unfold RT
    delta RT.match_1
    repeat rw [dif_neg (by omega)]
    rw [dif_pos (by omega)]
    repeat rw [dif_neg (by omega)]
  by_cases z104 : o = 104
  · subst z104
    unfold RT
    delta RT.match_1
    repeat rw [dif_neg (by omega)]
    rw [dif_pos (by omega)]
    repeat rw [dif_neg (by omega)]
  by_cases z105 : o = 105
  · subst z105
    unfold RT
    delta RT.match_1
    repeat rw [dif_neg (by omega)]
    rw [dif_pos (by omega)]
    repeat rw [dif_neg (by omega)]
  by_cases z110 : o = 110
  · subst z110
    unfold RT
    delta RT.match_1
    repeat rw [dif_neg (by omega)]
    rw [dif_pos (by omega)]
    repeat rw [dif_neg (by omega)]
  by_cases z114 : o = 114
  · subst z114
    unfold RT
    delta RT.match_1
    repeat rw [dif_neg (by omega)]
    rw [dif_pos (by omega)]
    repeat rw [dif_neg (by omega)]
  by_cases z124 : o = 124
  · subst z124
    unfold RT
    delta RT.match_1
    repeat rw [dif_neg (by omega)]
    rw [dif_pos (by omega)]
    repeat rw [dif_neg (by omega)]
  by_cases z131 : o = 131
  · subst z131
    unfold RT
    delta RT.match_1
    repeat rw [dif_neg (by omega)]
    rw [dif_pos (by omega)]
    repeat rw [dif_neg (by omega)]
  unfold RT
  delta RT.match_1
  repeat rw [dif_neg (by omega)]
theorem RT_bd {o k q : Nat} (h : RT o k = some q) : o < 174 ∧ k < 80 := by
  constructor
  · rcases Nat.lt_or_ge o 174 with z | z
    · exact z
    · rw [RT_hi z] at h; cases h
  · rcases Nat.lt_or_ge k 80 with z | z
    · exact z
    · rw [RT_k z] at h; cases h
set_option maxRecDepth 100000 in
theorem H4_R2 : ∀ o : Fin 174, ∀ k : Fin 80, RT o.val k.val = none ∨ gR H4c o.val k.val = RT o.val k.val := by decide +kernel
theorem H4_R3 {o k q : Nat} (h : RT o k = some q) : gR H4c o k = some q := by
  obtain ⟨h1, h2⟩ := RT_bd h
  rcases H4_R2 ⟨o, h1⟩ ⟨k, h2⟩ with z | z
  · have z : RT o k = none := z
    rw [h] at z; cases z
  · have z : gR H4c o k = RT o k := z
    rw [z]; exact h
