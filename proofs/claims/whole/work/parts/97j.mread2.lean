theorem suL_f {T : Nat → Int32} {k i : Nat} {w : Int32} {cs : XCS} (h1 : ¬ T i = 10042) (h2 : ¬ T i = 10047) : suL T (k + 1) w i cs = suL T (k + 1) 0 i (flu w cs) := by
  unfold suL
  rw [if_neg h1, if_neg h1, if_neg h2, if_neg h2, show flu 0 (flu w cs) = flu w cs from if_pos rfl]
section MREAD2
variable {b n c : Nat} {B : Nat → Nat}
/-- after a product: it fails as the thought does, or goes on as it does -/
def PrD (b n c : Nat) (B : Nat → Nat) (h0 : PH) (i : Nat) (cs : XCS) (x : Option (Int32 × PH)) (G : Int32 → XPR) : Prop := (∃ e h', x = some (-1, h') ∧ Sn LMP b h0 h' ∧ XMF h' b n B e ∧ ∀ w, G w = .error e) ∨ (∃ i' cs' k' h', x = some (0, h') ∧ Sn LMP b h0 h' ∧ XMR h' b n B c i' cs' ∧ i ≤ i' ∧ cs'.length ≤ cs.length + (i' - i) ∧ c < i' + (k' + 1) ∧ ¬ tkA B n i' = 10042 ∧ ¬ tkA B n i' = 10047 ∧ ∀ w, G w = suL (tkA B n) (k' + 1) w i' cs')
theorem mo_prL : ∀ (k N : Nat) (h : PH) (i : Nat) (cs : XCS), XMR h b n B c i cs → cs.length ≤ i → c < i + k → c < i + N → PrD b n c B h i cs (f_Mo_readProduct_10 N (b + 131) h) (fun w => suL (tkA B n) k w i cs) := by
  intro k
  induction k with
  | zero => intro N h i cs C _ h1 _; have := C.hn; omega
  | succ k ih =>
    intro N h i cs C hl hk hN
    have hn := C.hn
    have cE := C.cE
    have K := C.K
    obtain ⟨M, rfl⟩ : ∃ M, N = M + 1 := ⟨N - 1, by omega⟩
    have s42 := mo_isS C 42 (by decide) (by omega) (x := 42) (t := 10042) rfl rfl
    have s47 := mo_isS C 47 (by decide) (by omega) (x := 47) (t := 10047) rfl rfl
    rw [f_Mo_readProduct_10, isO_y K, bind_some', s42, bind_some']
    dsimp only
    by_cases c1 : tkA B n i = 10042
    · rw [show decide (tkA B n i = 10042) = true by simp [c1], if_neg (show ¬ bI true = 0 by decide)]
      have hic := C.lt (by rw [c1]; decide)
      obtain ⟨h1, a1, a2, a3⟩ := mo_adv C hic
      have u := mo_unit a3 (by omega)
      have g := un_gd cE (i := i + 1) (cs := cs) (by omega)
      unfold f_Mo_readProduct_28
      rw [isO_y K, bind_some', s42, bind_some']
      dsimp only
      rw [isO_y K, bind_some', a1, bind_some', show decide (tkA B n i = 10042) = true by simp [c1], if_neg (show ¬ bI true = 0 by decide)]
      unfold f_Mo_readProduct_57
      rw [if_neg (show ¬ bI true = 0 by decide)]
      unfold f_Mo_readProduct_74
      rw [isO_y a3.K, bind_some']
      cases e : unS (tkA B n) (i + 1) cs with
      | error er =>
        rw [e] at u
        obtain ⟨h2, u1, u2, u3⟩ := u
        rw [u1, bind_some']
        refine Or.inl ⟨er, h2, by rw [if_pos rfl], a2.tr u2, u3, fun w => ?_⟩
        show suL (tkA B n) (k + 1) w i cs = _
        unfold suL
        rw [if_pos c1, e]
      | ok p =>
        rw [e] at u g
        obtain ⟨h2, u1, u2, u3⟩ := u
        obtain ⟨g1, g2, v, g3, g4, g5, -⟩ := g
        have hlen : p.2.length = cs.length + 1 := by rw [g3, List.length_append, g5]
        rw [u1, bind_some']
        dsimp only
        rw [if_neg (show ¬ (0 : Int32) = -1 by decide), if_neg (show ¬ bI true = 0 by decide)]
        unfold f_Mo_readProduct_94
        obtain ⟨h3, w1, w2, w3⟩ := mo_emits u3 4 0 (by omega)
        rw [isO_y u3.K, bind_some', w1, bind_some']
        have hl2 : (p.2 ++ [((4 : Int32), (0 : Int32))]).length = cs.length + 2 := by rw [List.length_append, hlen]; rfl
        have es : ∀ w, suL (tkA B n) (k + 1) w i cs = suL (tkA B n) k w p.1 (p.2 ++ [(4, 0)]) := fun w => by
          show (if tkA B n i = 10042 then _ else _) = _
          rw [if_pos c1, e]
        rcases ih M h3 p.1 _ w3 (by rw [hl2]; omega) (by omega) (by omega) with ⟨er, h', z1, z2, z3, z4⟩ | ⟨i', cs', k', h', z1, z2, z3, z4, z5, z6⟩
        · exact Or.inl ⟨er, h', z1, ((a2.tr u2).tr w2).tr z2, z3, fun w => (es w).trans (z4 w)⟩
        · exact Or.inr ⟨i', cs', k', h', z1, ((a2.tr u2).tr w2).tr z2, z3, by omega, by rw [hl2] at z5; omega, z6.1, z6.2.1, z6.2.2.1, fun w => (es w).trans (z6.2.2.2 w)⟩
    rw [show decide (tkA B n i = 10042) = false by simp [c1], if_pos (show bI false = 0 from rfl), isO_y K, bind_some', s47, bind_some']
    dsimp only
    by_cases c2 : tkA B n i = 10047
    · rw [show decide (tkA B n i = 10047) = true by simp [c2], if_neg (show ¬ bI true = 0 by decide)]
      have hic := C.lt (by rw [c2]; decide)
      obtain ⟨h1, a1, a2, a3⟩ := mo_adv C hic
      have u := mo_unit a3 (by omega)
      have g := un_gd cE (i := i + 1) (cs := cs) (by omega)
      unfold f_Mo_readProduct_28
      rw [isO_y K, bind_some', s42, bind_some']
      dsimp only
      rw [isO_y K, bind_some', a1, bind_some', show decide (tkA B n i = 10042) = false by simp [c1], if_pos (show bI false = 0 from rfl), ldI_y a3.K, bind_some']
      by_cases c3 : isNm (tkA B n (i + 1)) = true
      · rw [if_pos (a3.num.1.mpr c3)]
        unfold f_Mo_readProduct_57
        rw [if_pos (show bI false = 0 from rfl), ldI_y a3.K, bind_some', a3.num.2 c3]
        by_cases c4 : tkA B n (i + 1) = 0
        · rw [if_pos c4, isO_y a3.K, bind_some']
          obtain ⟨h2, u1, u2, u3⟩ := mo_err a3 (k := 2)
          rw [show f_Mo_errs (b + 131) 2 h1 = some (-1, h2) from u1, bind_some']
          refine Or.inl ⟨_, h2, rfl, a2.tr u2, u3, fun w => ?_⟩
          show suL (tkA B n) (k + 1) w i cs = _
          unfold suL dvS
          rw [if_neg c1, if_pos c2, if_pos c3, if_pos c4]
        · rw [if_neg c4]
          unfold f_Mo_readProduct_74
          rw [isO_y a3.K, bind_some']
          have eu : unS (tkA B n) (i + 1) cs = .ok (i + 1 + 1, cs ++ [(0, tkA B n (i + 1))]) := by unfold unS; rw [if_pos c3]
          rw [eu] at u
          obtain ⟨h2, u1, u2, u3⟩ := u
          rw [u1, bind_some']
          dsimp only
          rw [if_neg (show ¬ (0 : Int32) = -1 by decide), if_pos (show bI false = 0 from rfl)]
          unfold f_Mo_readProduct_94
          have u3 : XMR h2 b n B c (i + 1 + 1) (cs ++ [(0, tkA B n (i + 1))]) := u3
          have hn2 := u3.hn
          obtain ⟨h3, w1, w2, w3⟩ := mo_emits u3 5 0 (by rw [List.length_append]; show cs.length + 1 < 400; omega)
          rw [isO_y u3.K, bind_some', w1, bind_some']
          have hl2 : (cs ++ [((0 : Int32), tkA B n (i + 1))] ++ [((5 : Int32), (0 : Int32))]).length = cs.length + 2 := by rw [List.length_append, List.length_append]; rfl
          have es : ∀ w, suL (tkA B n) (k + 1) w i cs = suL (tkA B n) k w (i + 1 + 1) (cs ++ [(0, tkA B n (i + 1))] ++ [(5, 0)]) := fun w => by
            show (if tkA B n i = 10042 then _ else if tkA B n i = 10047 then _ else _) = _
            rw [if_neg c1, if_pos c2]
            unfold dvS
            rw [if_pos c3, if_neg c4]
          rcases ih M h3 (i + 1 + 1) _ w3 (by rw [hl2]; omega) (by omega) (by omega) with ⟨er, h', z1, z2, z3, z4⟩ | ⟨i', cs', k', h', z1, z2, z3, z4, z5, z6⟩
          · exact Or.inl ⟨er, h', z1, ((a2.tr u2).tr w2).tr z2, z3, fun w => (es w).trans (z4 w)⟩
          · exact Or.inr ⟨i', cs', k', h', z1, ((a2.tr u2).tr w2).tr z2, z3, by omega, by rw [hl2] at z5; omega, z6.1, z6.2.1, z6.2.2.1, fun w => (es w).trans (z6.2.2.2 w)⟩
      · rw [if_neg (fun z => c3 (a3.num.1.mp z)), isO_y a3.K, bind_some']
        obtain ⟨h2, u1, u2, u3⟩ := mo_err a3 (k := 1)
        rw [show f_Mo_errs (b + 131) 1 h1 = some (-1, h2) from u1, bind_some']
        refine Or.inl ⟨_, h2, rfl, a2.tr u2, u3, fun w => ?_⟩
        show suL (tkA B n) (k + 1) w i cs = _
        unfold suL dvS
        rw [if_neg c1, if_pos c2, if_neg c3]
    rw [show decide (tkA B n i = 10047) = false by simp [c2], if_pos (show bI false = 0 from rfl)]
    exact Or.inr ⟨i, cs, k, h, rfl, Sn.rf, C, Nat.le_refl _, by omega, by omega, c1, c2, fun w => rfl⟩
theorem mo_prod {h : PH} {i k : Nat} {cs : XCS} (C : XMR h b n B c i cs) (hl : cs.length ≤ i) (hk : c < i + 1 + k) : PrD b n c B h i cs (f_Mo_readProduct (b + 131) h) (fun w => match unS (tkA B n) i cs with | .ok r => suL (tkA B n) k w r.1 r.2 | .error e => .error e) := by
  have hn := C.hn
  have u := mo_unit C hl
  have g := un_gd C.cE (cs := cs) hn.2.2
  unfold f_Mo_readProduct
  rw [isO_y C.K, bind_some']
  cases e : unS (tkA B n) i cs with
  | error er =>
    rw [e] at u
    obtain ⟨h2, u1, u2, u3⟩ := u
    rw [u1, bind_some']
    exact Or.inl ⟨er, h2, by rw [if_pos rfl], u2, u3, fun w => rfl⟩
  | ok p =>
    rw [e] at u g
    obtain ⟨h2, u1, u2, u3⟩ := u
    obtain ⟨g1, g2, v, g3, g4, g5, -⟩ := g
    have hlen : p.2.length = cs.length + 1 := by rw [g3, List.length_append, g5]
    rw [u1, bind_some']
    dsimp only
    rw [if_neg (show ¬ (0 : Int32) = -1 by decide)]
    rcases mo_prL k FU h2 p.1 p.2 u3 (by omega) (by omega) (by rw [FU_eq]; omega) with ⟨er, h', z1, z2, z3, z4⟩ | ⟨i', cs', k', h', z1, z2, z3, z4, z5, z6⟩
    · exact Or.inl ⟨er, h', z1, u2.tr z2, z3, z4⟩
    · exact Or.inr ⟨i', cs', k', h', z1, u2.tr z2, z3, by omega, by omega, z6⟩
theorem mo_suL : ∀ (d k N : Nat) (h : PH) (i : Nat) (cs : XCS), c ≤ i + d → XMR h b n B c i cs → cs.length ≤ i → ¬ tkA B n i = 10042 → ¬ tkA B n i = 10047 → c < i + (k + 1) → c < i + N → XMO h b n B c (suL (tkA B n) (k + 1) 0 i cs) (f_Mo_readSum_10 N (b + 131) h) := by
  intro d
  induction d with
  | zero =>
    intro k N h i cs hd C hl n1 n2 hk hN
    have hn := C.hn
    have K := C.K
    obtain ⟨M, rfl⟩ : ∃ M, N = M + 1 := ⟨N - 1, by omega⟩
    have ec : tkA B n i = -1 := by rw [show i = c by omega]; exact C.cE
    have s43 := mo_isS C 43 (by decide) (by omega) (x := 43) (t := 10043) rfl rfl
    have s45 := mo_isS C 45 (by decide) (by omega) (x := 45) (t := 10045) rfl rfl
    rw [f_Mo_readSum_10, isO_y K, bind_some', s43, bind_some']
    dsimp only
    rw [ec, show bI (decide ((-1 : Int32) = 10043)) = 0 by decide, if_pos rfl, isO_y K, bind_some', s45, bind_some']
    dsimp only
    rw [ec, show bI (decide ((-1 : Int32) = 10045)) = 0 by decide, if_pos rfl]
    unfold suL
    rw [if_neg n1, if_neg n2, if_neg (by rw [ec]; decide), if_neg (by rw [ec]; decide)]
    exact ⟨h, rfl, Sn.rf, C⟩
  | succ d ih =>
    intro k N h i cs hd C hl n1 n2 hk hN
    have hn := C.hn
    have cE := C.cE
    have K := C.K
    obtain ⟨M, rfl⟩ : ∃ M, N = M + 1 := ⟨N - 1, by omega⟩
    have s43 := mo_isS C 43 (by decide) (by omega) (x := 43) (t := 10043) rfl rfl
    have s45 := mo_isS C 45 (by decide) (by omega) (x := 45) (t := 10045) rfl rfl
    have go : ∀ o : Int32, (o = 2 ∨ o = 3) → tkA B n i ≠ -1 → suL (tkA B n) (k + 1) 0 i cs = (match unS (tkA B n) (i + 1) cs with | .ok r => suL (tkA B n) k o r.1 r.2 | .error e => .error e) → XMO h b n B c (suL (tkA B n) (k + 1) 0 i cs) (f_Mo_readSum_42 (fun a0 h => f_Mo_readSum_10 M a0 h) (b + 131) o h) := by
      intro o ho ne es
      rw [es]
      have hic := C.lt ne
      obtain ⟨h1, a1, a2, a3⟩ := mo_adv C hic
      unfold f_Mo_readSum_42
      rw [isO_y K, bind_some', a1, bind_some', isO_y a3.K, bind_some']
      rcases mo_prod (k := k) a3 (by omega) (by omega) with ⟨er, h2, z1, z2, z3, z4⟩ | ⟨i', cs', k', h2, z1, z2, z3, z4, z5, z6, z7, z8, z9⟩
      · have z4 := z4 o
        dsimp only at z4
        rw [z1, bind_some', z4]
        exact ⟨h2, by rw [if_pos rfl], a2.tr z2, z3⟩
      · have hn2 := z3.hn
        have z9 := z9 o
        dsimp only at z9
        rw [z1, bind_some', z9]
        dsimp only
        rw [if_neg (show ¬ (0 : Int32) = -1 by decide), isO_y z3.K, bind_some']
        obtain ⟨h3, w1, w2, w3⟩ := mo_emits z3 o 0 (by omega)
        rw [w1, bind_some', suL_f z7 z8, show flu o cs' = cs' ++ [(o, 0)] from if_neg (by rcases ho with rfl | rfl <;> decide)]
        exact XMO.tr ((a2.tr z2).tr w2) (ih k' M h3 i' _ (by omega) w3 (by rw [List.length_append]; show cs'.length + 1 ≤ i'; omega) z7 z8 z6 (by omega))
    rw [f_Mo_readSum_10, isO_y K, bind_some', s43, bind_some']
    dsimp only
    by_cases c3 : tkA B n i = 10043
    · rw [show decide (tkA B n i = 10043) = true by simp [c3], if_neg (show ¬ bI true = 0 by decide)]
      unfold f_Mo_readSum_28
      have v : gI h (b + 131) 18 = 43 := by
        rcases C.tk with ⟨z, -⟩ | ⟨z, -⟩ | ⟨x, x1, z, -⟩ | ⟨x, x1, z, y⟩ | ⟨x, x1, z, -⟩
        · rw [z] at c3; exact absurd c3 (by decide)
        · rw [z] at c3; exact absurd c3 (by decide)
        · rw [z] at c3; have : x = 10043 := (nI_eqL (n := 10043) (by omega) (by decide)).mp c3; omega
        · rw [z] at c3
          have e : 10000 + x = 10043 := (nI_eqL (n := 10043) (by omega) (by decide)).mp c3
          have e : x = 43 := by omega
          rcases y with ⟨-, -, y⟩ | ⟨y, -⟩
          · rw [y, e]; rfl
          · rw [e] at y; exact absurd y (by decide)
        · rw [z] at c3; have : 20000 + x = 10043 := (nI_eqL (n := 10043) (by omega) (by decide)).mp c3; omega
      rw [ldI_y K, bind_some', v, if_pos rfl]
      refine go 2 (Or.inl rfl) (by rw [c3]; decide) ?_
      show (if tkA B n i = 10042 then _ else if tkA B n i = 10047 then _ else if tkA B n i = 10043 then _ else _) = _
      rw [if_neg n1, if_neg n2, if_pos c3, show flu 0 cs = cs from if_pos rfl]
      rfl
    rw [show decide (tkA B n i = 10043) = false by simp [c3], if_pos (show bI false = 0 from rfl), isO_y K, bind_some', s45, bind_some']
    dsimp only
    by_cases c4 : tkA B n i = 10045
    · rw [show decide (tkA B n i = 10045) = true by simp [c4], if_neg (show ¬ bI true = 0 by decide)]
      unfold f_Mo_readSum_28
      have v : gI h (b + 131) 18 = 45 := by
        rcases C.tk with ⟨z, -⟩ | ⟨z, -⟩ | ⟨x, x1, z, -⟩ | ⟨x, x1, z, y⟩ | ⟨x, x1, z, -⟩
        · rw [z] at c4; exact absurd c4 (by decide)
        · rw [z] at c4; exact absurd c4 (by decide)
        · rw [z] at c4; have : x = 10045 := (nI_eqL (n := 10045) (by omega) (by decide)).mp c4; omega
        · rw [z] at c4
          have e : 10000 + x = 10045 := (nI_eqL (n := 10045) (by omega) (by decide)).mp c4
          have e : x = 45 := by omega
          rcases y with ⟨-, -, y⟩ | ⟨y, -⟩
          · rw [y, e]; rfl
          · rw [e] at y; exact absurd y (by decide)
        · rw [z] at c4; have : 20000 + x = 10045 := (nI_eqL (n := 10045) (by omega) (by decide)).mp c4; omega
      rw [ldI_y K, bind_some', v, if_neg (show ¬ (45 : Int32) = 43 by decide)]
      refine go 3 (Or.inr rfl) (by rw [c4]; decide) ?_
      show (if tkA B n i = 10042 then _ else if tkA B n i = 10047 then _ else if tkA B n i = 10043 then _ else if tkA B n i = 10045 then _ else _) = _
      rw [if_neg n1, if_neg n2, if_neg c3, if_pos c4, show flu 0 cs = cs from if_pos rfl]
      rfl
    rw [show decide (tkA B n i = 10045) = false by simp [c4], if_pos (show bI false = 0 from rfl)]
    unfold suL
    rw [if_neg n1, if_neg n2, if_neg c3, if_neg c4]
    exact ⟨h, rfl, Sn.rf, C⟩
theorem mo_sum {h : PH} {i K : Nat} {cs : XCS} (C : XMR h b n B c i cs) (hl : cs.length ≤ i) (hK : c < K) : XMO h b n B c (suS (tkA B n) K i cs) (f_Mo_readSum (b + 131) h) := by
  have hn := C.hn
  unfold f_Mo_readSum
  rw [isO_y C.K, bind_some']
  rcases mo_prod (k := K) C hl (by omega) with ⟨er, h2, z1, z2, z3, z4⟩ | ⟨i', cs', k', h2, z1, z2, z3, z4, z5, z6, z7, z8, z9⟩
  · have z4 : suS (tkA B n) K i cs = .error er := z4 0
    rw [z1, bind_some', z4]
    exact ⟨h2, by rw [if_pos rfl], z2, z3⟩
  · have hn2 := z3.hn
    have z9 : suS (tkA B n) K i cs = suL (tkA B n) (k' + 1) 0 i' cs' := z9 0
    rw [z1, bind_some', z9]
    dsimp only
    rw [if_neg (show ¬ (0 : Int32) = -1 by decide)]
    exact XMO.tr z2 (mo_suL c k' FU h2 i' cs' (by omega) z3 (by omega) z7 z8 z6 (by rw [FU_eq]; omega))
end MREAD2
