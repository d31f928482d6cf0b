/-! ===== the law's loop out of the calls ===== -/
def B_state (I : PH → Prop) (X Y : Nat) : Prop := (∀ h, I h → ∀ v1 : Int32, Both I h (fun h => f_Tc_state X v1 h) (fun h => f_Mo_state Y v1 h))
def B_traveller (I : PH → Prop) (X Y : Nat) : Prop := (∀ h, I h → ∀ v1 v2 v3 : Int32, Both I h (fun h => f_Tc_traveller X v1 v2 v3 h) (fun h => f_Mo_traveller Y v1 v2 v3 h))
def B_officer (I : PH → Prop) (X Y : Nat) : Prop := (∀ h, I h → ∀ v1 v2 v3 : Int32, Both I h (fun h => f_Tc_officer X v1 v2 v3 h) (fun h => f_Mo_officer Y v1 v2 v3 h))
def B_set (I : PH → Prop) (X Y : Nat) : Prop := (∀ h, I h → ∀ v1 v2 v3 : Int32, Both I h (fun h => f_Tc_set X v1 v2 v3 h) (fun h => f_Mo_set Y v1 v2 v3 h))
def B_act (I : PH → Prop) (X Y : Nat) : Prop := (∀ h, I h → ∀ v1 v2 v3 : Int32, Both I h (fun h => f_Tc_act X v1 v2 v3 h) (fun h => f_Mo_act Y v1 v2 v3 h))
def B_weigh (I : PH → Prop) (X Y : Nat) : Prop := (∀ h, I h → ∀ v1 v2 : Int32, Both I h (fun h => f_Tc_weigh X v1 v2 h) (fun h => f_Mo_weigh Y v1 v2 h))
def B_hours (I : PH → Prop) (X Y : Nat) : Prop := (∀ h, I h → ∀ v1 : Int32, Both I h (fun h => f_Tc_hours X v1 h) (fun h => f_Mo_hours Y v1 h))
def B_feed (I : PH → Prop) (X Y : Nat) : Prop := (∀ h, I h → ∀ v1 v2 v3 v4 v5 : Int32, Both I h (fun h => f_Tc_feed X v1 v2 v3 v4 v5 h) (fun h => f_Mo_feed Y v1 v2 v3 v4 v5 h))
def B_end (I : PH → Prop) (X Y : Nat) : Prop := (∀ h, I h → ∀ v1 : Int32, Both I h (fun h => f_Tc_end X v1 h) (fun h => f_Mo_end Y v1 h))
def B_text (I : PH → Prop) (X Y : Nat) : Prop := (∀ h, I h → ∀ v1 : Int32, Both I h (fun h => f_Tc_text X v1 h) (fun h => f_Mo_text Y v1 h))
def B_fault (I : PH → Prop) (X Y : Nat) : Prop := (∀ h, I h → ∀ v1 : Int32, Both I h (fun h => f_Tc_fault X v1 h) (fun h => f_Mo_fault Y v1 h))
def B_of (I : PH → Prop) (X Y : Nat) : Prop := (∀ h, I h → ∀ v1 v2 : Int32, Both I h (fun h => f_Tc_of X v1 v2 h) (fun h => f_Mo_of Y v1 v2 h))
def B_who (I : PH → Prop) (X Y : Nat) : Prop := (∀ h, I h → ∀ v1 v2 : Int32, Both I h (fun h => f_Tc_who X v1 v2 h) (fun h => f_Mo_who Y v1 v2 h))
def B_book (I : PH → Prop) (X Y : Nat) : Prop := (∀ h, I h → ∀ v1 v2 : Int32, Both I h (fun h => f_Tc_book X v1 v2 h) (fun h => f_Mo_book Y v1 v2 h))
def B_goes (I : PH → Prop) (X Y : Nat) : Prop := (∀ h, I h → ∀ v1 v2 : Int32, Both I h (fun h => f_Tc_goes X v1 v2 h) (fun h => f_Mo_goes Y v1 v2 h))
def B_rate (I : PH → Prop) (X Y : Nat) : Prop := (∀ h, I h → ∀ v1 : Int32, Both I h (fun h => f_Tc_rate X v1 h) (fun h => f_Mo_rate Y v1 h))
def B_order (I : PH → Prop) (X Y : Nat) : Prop := (∀ h, I h → ∀ v1 v2 v3 : Int32, Both I h (fun h => f_Tc_order X v1 v2 v3 h) (fun h => f_Mo_order Y v1 v2 v3 h))
def B_ordered (I : PH → Prop) (X Y : Nat) : Prop := (∀ h, I h → ∀ v1 : Int32, Both I h (fun h => f_Tc_ordered X v1 h) (fun h => f_Mo_ordered Y v1 h))
def B_hand (I : PH → Prop) (X Y : Nat) : Prop := (∀ h, I h → ∀ v1 v2 : Int32, Both I h (fun h => f_Tc_hand X v1 v2 h) (fun h => f_Mo_hand Y v1 v2 h))
def B_hands (I : PH → Prop) (X Y : Nat) : Prop := (∀ h, I h → ∀ v1 : Int32, Both I h (fun h => f_Tc_hands X v1 h) (fun h => f_Mo_hands Y v1 h))
def B_weight (I : PH → Prop) (X Y : Nat) : Prop := (∀ h, I h → ∀ v1 : Int32, Both I h (fun h => f_Tc_weight X v1 h) (fun h => f_Mo_weight Y v1 h))
def B_crates (I : PH → Prop) (X Y : Nat) : Prop := (∀ h, I h → ∀ v1 v2 : Int32, Both I h (fun h => f_Tc_crates X v1 v2 h) (fun h => f_Mo_crates Y v1 v2 h))
def B_bag (I : PH → Prop) (X Y : Nat) : Prop := (∀ h, I h → ∀ v1 : Int32, Both I h (fun h => f_Tc_bag X v1 h) (fun h => f_Mo_bag Y v1 h))
def B_weighed (I : PH → Prop) (X Y : Nat) : Prop := (∀ h, I h → ∀ v1 v2 : Int32, Both I h (fun h => f_Tc_weighed X v1 v2 h) (fun h => f_Mo_weighed Y v1 v2 h))
def B_suspects (I : PH → Prop) (X Y : Nat) : Prop := (∀ h, I h → ∀ v1 : Int32, Both I h (fun h => f_Tc_suspects X v1 h) (fun h => f_Mo_suspects Y v1 h))
def B_driest (I : PH → Prop) (X Y : Nat) : Prop := (∀ h, I h → ∀ v1 v2 v3 v4 : Int32, Both I h (fun h => f_Tc_driest X v1 v2 v3 v4 h) (fun h => f_Mo_driest Y v1 v2 v3 v4 h))
def B_count (I : PH → Prop) (X Y : Nat) : Prop := (∀ h, I h → ∀ v1 v2 v3 : Int32, Both I h (fun h => f_Tc_count X v1 v2 v3 h) (fun h => f_Mo_count Y v1 v2 v3 h))
def B_likely (I : PH → Prop) (X Y : Nat) : Prop := (∀ h, I h → ∀ v1 v2 : Int32, Both I h (fun h => f_Tc_likely X v1 v2 h) (fun h => f_Mo_likely Y v1 v2 h))
def B_salt (I : PH → Prop) (X Y : Nat) : Prop := (∀ h, I h → ∀ v1 : Int32, Both I h (fun h => f_Tc_salt X v1 h) (fun h => f_Mo_salt Y v1 h))
def B_won (I : PH → Prop) (X Y : Nat) : Prop := (∀ h, I h → ∀ v1 : Int32, Both I h (fun h => f_Tc_won X v1 h) (fun h => f_Mo_won Y v1 h))
def B_ledger (I : PH → Prop) (X Y : Nat) : Prop := (∀ h, I h → ∀ v1 v2 : Int32, Both I h (fun h => f_Tc_ledger X v1 v2 h) (fun h => f_Mo_ledger Y v1 v2 h))
def B_altered (I : PH → Prop) (X Y : Nat) : Prop := (∀ h, I h → ∀ v1 : Int32, Both I h (fun h => f_Tc_altered X v1 h) (fun h => f_Mo_altered Y v1 h))
def B_years (I : PH → Prop) (X Y : Nat) : Prop := (∀ h, I h → ∀ v1 v2 : Int32, Both I h (fun h => f_Tc_years X v1 v2 h) (fun h => f_Mo_years Y v1 v2 h))
def B_dry (I : PH → Prop) (X Y : Nat) : Prop := (∀ h, I h → ∀ v1 : Int32, Both I h (fun h => f_Tc_dry X v1 h) (fun h => f_Mo_dry Y v1 h))
def B_votes (I : PH → Prop) (X Y : Nat) : Prop := (∀ h, I h → ∀ v1 v2 : Int32, Both I h (fun h => f_Tc_votes X v1 v2 h) (fun h => f_Mo_votes Y v1 v2 h))
def B_game (I : PH → Prop) (X Y : Nat) : Prop := (∀ h, I h → ∀ v1 : Int32, Both I h (fun h => f_Tc_game X v1 h) (fun h => f_Mo_game Y v1 h))
def B_undo (I : PH → Prop) (X Y : Nat) : Prop := (∀ h, I h → Both I h (fun h => f_Tc_undo X h) (fun h => f_Mo_undo Y h))
def B_image (I : PH → Prop) (X Y : Nat) : Prop := (∀ h, I h → ∀ z : Int32, (z = 0 ∨ z = 1) → Both I h (fun h => f_Tc_image X z h) (fun h => f_Mo_image Y z h))
def B_look (I : PH → Prop) (X Y : Nat) : Prop := (∀ h, I h → ∀ v1 : Int32, Both I h (fun h => f_Tc_look X v1 h) (fun h => f_Mo_look Y v1 h))
/-- all calls answer alike, whatever was called before -/
def AllBoth (I : PH → Prop) (X Y : Nat) : Prop := B_state I X Y ∧ B_traveller I X Y ∧ B_officer I X Y ∧ B_set I X Y ∧ B_act I X Y ∧ B_weigh I X Y ∧ B_hours I X Y ∧ B_feed I X Y ∧ B_end I X Y ∧ B_text I X Y ∧ B_fault I X Y ∧ B_of I X Y ∧ B_who I X Y ∧ B_book I X Y ∧ B_goes I X Y ∧ B_rate I X Y ∧ B_order I X Y ∧ B_ordered I X Y ∧ B_hand I X Y ∧ B_hands I X Y ∧ B_weight I X Y ∧ B_crates I X Y ∧ B_bag I X Y ∧ B_weighed I X Y ∧ B_suspects I X Y ∧ B_driest I X Y ∧ B_count I X Y ∧ B_likely I X Y ∧ B_salt I X Y ∧ B_won I X Y ∧ B_ledger I X Y ∧ B_altered I X Y ∧ B_years I X Y ∧ B_dry I X Y ∧ B_votes I X Y ∧ B_game I X Y ∧ B_undo I X Y ∧ B_image I X Y ∧ B_look I X Y
theorem rdS_x {h h1 : PH} (hx : gX h1 = gX h) (a : Nat) (i : Int32) : rdS h1 a i = rdS h a i := by unfold rdS; rw [hx]
theorem isO_y {h : PH} {ci a : Nat} (hk : gK h a = (0, ci)) : isO h ci a = some () := if_pos hk
theorem step6 (i : Nat) : nI (6 * i) + 6 = nI (6 * (i + 1)) := by rw [nI_addL, Nat.mul_add]
set_option maxHeartbeats 4000000 in
set_option maxRecDepth 100000 in
theorem law_loop (I : PH → Prop) (X Y sb L : Nat) (hL : L ≤ 3072) (hI : ∀ h, I h → gK h X = (0, 8) ∧ gK h Y = (0, 9)) (A : AllBoth I X Y) : ∀ (n i : Nat) (h : PH), I h → (gX h).2.2.1 = sb → (gX h).2.2.2.1 = L → 6 * i ≤ L → L < 6 * (n + i) → ∃ hF, f_Lw_law_18 n sb X Y (nI (6 * i)) h = some (1, hF) := by
  obtain ⟨A0, A1, A2, A3, A4, A5, A6, A7, A8, A9, A10, A11, A12, A13, A14, A15, A16, A17, A18, A19, A20, A21, A22, A23, A24, A25, A26, A27, A28, A29, A30, A31, A32, A33, A34, A35, A36, A37, A38⟩ := A
  intro n
  induction n with
  | zero =>
    intro i h hi hb hl h1 h2
    omega
  | succ n ih =>
    intro i h hi hb hl hle hlt
    obtain ⟨kX, kY⟩ := hI h hi
    have O8 : isO h 8 X = some () := isO_y kX
    rw [f_Lw_law_18]
    have ln : lnS h sb = some (nI L) := by unfold lnS; rw [if_pos hb.symm, hl]
    rw [ln, bind_some']
    by_cases hc : nI L - 6 < nI (6 * i)
    · rw [if_pos hc, rtZ_1]
      exact ⟨h, rfl⟩
    · rw [if_neg hc]
      have hin : 6 * i + 6 ≤ L := by
        rcases Nat.lt_or_ge L (6 * i + 6) with q | q
        · exfalso
          apply hc
          by_cases h6 : L < 6
          · rw [fa_lt, show (nI L - 6).toInt = (L : Int) - 6 from pk_sub_toInt (a := L) (b := 6) (by omega) (by omega), nI_toInt (by omega)]
            omega
          · rw [nI_subL L (by omega), nI_ltI (by omega) (by omega)]
            omega
        · exact q
      have nx : ∀ h2, I h2 → gX h2 = gX h → ∃ hF, f_Lw_law_18 n sb X Y (nI (6 * i) + 6) h2 = some (1, hF) := by
        intro h2 i2 x2
        rw [step6]
        exact ih (i + 1) h2 i2 (by rw [x2]; exact hb) (by rw [x2]; exact hl) (by omega) (by omega)
      generalize hF : (gX h).2.2.2.2 = F
      have r0 : rdS h sb (nI (6 * i)) = some (F (6 * i)) := by rw [rdS_eq hb.symm rfl (by omega) (by omega), hF]
      have r1 : ∀ h1, gX h1 = gX h → rdS h1 sb (nI (6 * i) + 1) = some (F (6 * i + 1)) := fun h1 x1 => by rw [rdS_x x1, rdS_eq hb.symm (nI_addL (6 * i)) (by omega) (by omega), hF]
      have r2 : ∀ h1, gX h1 = gX h → rdS h1 sb (nI (6 * i) + 2) = some (F (6 * i + 2)) := fun h1 x1 => by rw [rdS_x x1, rdS_eq hb.symm (nI_addL (6 * i)) (by omega) (by omega), hF]
      have r3 : ∀ h1, gX h1 = gX h → rdS h1 sb (nI (6 * i) + 3) = some (F (6 * i + 3)) := fun h1 x1 => by rw [rdS_x x1, rdS_eq hb.symm (nI_addL (6 * i)) (by omega) (by omega), hF]
      have r4 : ∀ h1, gX h1 = gX h → rdS h1 sb (nI (6 * i) + 4) = some (F (6 * i + 4)) := fun h1 x1 => by rw [rdS_x x1, rdS_eq hb.symm (nI_addL (6 * i)) (by omega) (by omega), hF]
      have r5 : ∀ h1, gX h1 = gX h → rdS h1 sb (nI (6 * i) + 5) = some (F (6 * i + 5)) := fun h1 x1 => by rw [rdS_x x1, rdS_eq hb.symm (nI_addL (6 * i)) (by omega) (by omega), hF]
      rw [r0, bind_some']
      by_cases c0 : (F (6 * i) &&& 63) = 0
      · rw [if_pos c0]
        obtain ⟨r, h1, h2, e1, x1, k1, e2, x2, i2⟩ := A0 h hi (F (6 * i + 1))
        have e1 : f_Tc_state X (F (6 * i + 1)) h = some (r, h1) := e1
        have e2 : f_Mo_state Y (F (6 * i + 1)) h1 = some (r, h2) := e2
        have O9 : isO h1 9 Y = some () := isO_y (k1 Y kY)
        simp only [r1 h rfl, r1 h1 x1, O8, O9, e1, e2, bind_some', if_true]
        exact nx h2 i2 x2
      rw [if_neg c0]
      by_cases c1 : (F (6 * i) &&& 63) = 1
      · rw [if_pos c1]
        obtain ⟨r, h1, h2, e1, x1, k1, e2, x2, i2⟩ := A1 h hi (F (6 * i + 1)) (F (6 * i + 2)) (F (6 * i + 3))
        have e1 : f_Tc_traveller X (F (6 * i + 1)) (F (6 * i + 2)) (F (6 * i + 3)) h = some (r, h1) := e1
        have e2 : f_Mo_traveller Y (F (6 * i + 1)) (F (6 * i + 2)) (F (6 * i + 3)) h1 = some (r, h2) := e2
        have O9 : isO h1 9 Y = some () := isO_y (k1 Y kY)
        simp only [r1 h rfl, r1 h1 x1, r2 h rfl, r2 h1 x1, r3 h rfl, r3 h1 x1, O8, O9, e1, e2, bind_some', if_true]
        exact nx h2 i2 x2
      rw [if_neg c1]
      by_cases c2 : (F (6 * i) &&& 63) = 2
      · rw [if_pos c2]
        obtain ⟨r, h1, h2, e1, x1, k1, e2, x2, i2⟩ := A2 h hi (F (6 * i + 1)) (F (6 * i + 2)) (F (6 * i + 3))
        have e1 : f_Tc_officer X (F (6 * i + 1)) (F (6 * i + 2)) (F (6 * i + 3)) h = some (r, h1) := e1
        have e2 : f_Mo_officer Y (F (6 * i + 1)) (F (6 * i + 2)) (F (6 * i + 3)) h1 = some (r, h2) := e2
        have O9 : isO h1 9 Y = some () := isO_y (k1 Y kY)
        simp only [r1 h rfl, r1 h1 x1, r2 h rfl, r2 h1 x1, r3 h rfl, r3 h1 x1, O8, O9, e1, e2, bind_some', if_true]
        exact nx h2 i2 x2
      rw [if_neg c2]
      by_cases c3 : (F (6 * i) &&& 63) = 3
      · rw [if_pos c3]
        obtain ⟨r, h1, h2, e1, x1, k1, e2, x2, i2⟩ := A3 h hi (F (6 * i + 1)) (F (6 * i + 2)) (F (6 * i + 3))
        have e1 : f_Tc_set X (F (6 * i + 1)) (F (6 * i + 2)) (F (6 * i + 3)) h = some (r, h1) := e1
        have e2 : f_Mo_set Y (F (6 * i + 1)) (F (6 * i + 2)) (F (6 * i + 3)) h1 = some (r, h2) := e2
        have O9 : isO h1 9 Y = some () := isO_y (k1 Y kY)
        simp only [r1 h rfl, r1 h1 x1, r2 h rfl, r2 h1 x1, r3 h rfl, r3 h1 x1, O8, O9, e1, e2, bind_some', if_true]
        exact nx h2 i2 x2
      rw [if_neg c3]
      by_cases c4 : (F (6 * i) &&& 63) = 4
      · rw [if_pos c4]
        obtain ⟨r, h1, h2, e1, x1, k1, e2, x2, i2⟩ := A4 h hi (F (6 * i + 1)) (F (6 * i + 2)) (F (6 * i + 3))
        have e1 : f_Tc_act X (F (6 * i + 1)) (F (6 * i + 2)) (F (6 * i + 3)) h = some (r, h1) := e1
        have e2 : f_Mo_act Y (F (6 * i + 1)) (F (6 * i + 2)) (F (6 * i + 3)) h1 = some (r, h2) := e2
        have O9 : isO h1 9 Y = some () := isO_y (k1 Y kY)
        simp only [r1 h rfl, r1 h1 x1, r2 h rfl, r2 h1 x1, r3 h rfl, r3 h1 x1, O8, O9, e1, e2, bind_some', if_true]
        exact nx h2 i2 x2
      rw [if_neg c4]
      by_cases c5 : (F (6 * i) &&& 63) = 5
      · rw [if_pos c5]
        obtain ⟨r, h1, h2, e1, x1, k1, e2, x2, i2⟩ := A5 h hi (F (6 * i + 1)) (F (6 * i + 2))
        have e1 : f_Tc_weigh X (F (6 * i + 1)) (F (6 * i + 2)) h = some (r, h1) := e1
        have e2 : f_Mo_weigh Y (F (6 * i + 1)) (F (6 * i + 2)) h1 = some (r, h2) := e2
        have O9 : isO h1 9 Y = some () := isO_y (k1 Y kY)
        simp only [r1 h rfl, r1 h1 x1, r2 h rfl, r2 h1 x1, O8, O9, e1, e2, bind_some', if_true]
        exact nx h2 i2 x2
      rw [if_neg c5]
      by_cases c6 : (F (6 * i) &&& 63) = 6
      · rw [if_pos c6]
        obtain ⟨r, h1, h2, e1, x1, k1, e2, x2, i2⟩ := A6 h hi (F (6 * i + 1))
        have e1 : f_Tc_hours X (F (6 * i + 1)) h = some (r, h1) := e1
        have e2 : f_Mo_hours Y (F (6 * i + 1)) h1 = some (r, h2) := e2
        have O9 : isO h1 9 Y = some () := isO_y (k1 Y kY)
        simp only [r1 h rfl, r1 h1 x1, O8, O9, e1, e2, bind_some', if_true]
        exact nx h2 i2 x2
      rw [if_neg c6]
      by_cases c7 : (F (6 * i) &&& 63) = 7
      · rw [if_pos c7]
        obtain ⟨r, h1, h2, e1, x1, k1, e2, x2, i2⟩ := A7 h hi (F (6 * i + 1)) (F (6 * i + 2)) (F (6 * i + 3)) (F (6 * i + 4)) (F (6 * i + 5))
        have e1 : f_Tc_feed X (F (6 * i + 1)) (F (6 * i + 2)) (F (6 * i + 3)) (F (6 * i + 4)) (F (6 * i + 5)) h = some (r, h1) := e1
        have e2 : f_Mo_feed Y (F (6 * i + 1)) (F (6 * i + 2)) (F (6 * i + 3)) (F (6 * i + 4)) (F (6 * i + 5)) h1 = some (r, h2) := e2
        have O9 : isO h1 9 Y = some () := isO_y (k1 Y kY)
        simp only [r1 h rfl, r1 h1 x1, r2 h rfl, r2 h1 x1, r3 h rfl, r3 h1 x1, r4 h rfl, r4 h1 x1, r5 h rfl, r5 h1 x1, O8, O9, e1, e2, bind_some', if_true]
        exact nx h2 i2 x2
      rw [if_neg c7]
      by_cases c8 : (F (6 * i) &&& 63) = 8
      · rw [if_pos c8]
        obtain ⟨r, h1, h2, e1, x1, k1, e2, x2, i2⟩ := A8 h hi (F (6 * i + 1))
        have e1 : f_Tc_end X (F (6 * i + 1)) h = some (r, h1) := e1
        have e2 : f_Mo_end Y (F (6 * i + 1)) h1 = some (r, h2) := e2
        have O9 : isO h1 9 Y = some () := isO_y (k1 Y kY)
        simp only [r1 h rfl, r1 h1 x1, O8, O9, e1, e2, bind_some', if_true]
        exact nx h2 i2 x2
      rw [if_neg c8]
      by_cases c9 : (F (6 * i) &&& 63) = 9
      · rw [if_pos c9]
        obtain ⟨r, h1, h2, e1, x1, k1, e2, x2, i2⟩ := A9 h hi (F (6 * i + 1))
        have e1 : f_Tc_text X (F (6 * i + 1)) h = some (r, h1) := e1
        have e2 : f_Mo_text Y (F (6 * i + 1)) h1 = some (r, h2) := e2
        have O9 : isO h1 9 Y = some () := isO_y (k1 Y kY)
        simp only [r1 h rfl, r1 h1 x1, O8, O9, e1, e2, bind_some', if_true]
        exact nx h2 i2 x2
      rw [if_neg c9]
      by_cases c10 : (F (6 * i) &&& 63) = 10
      · rw [if_pos c10]
        obtain ⟨r, h1, h2, e1, x1, k1, e2, x2, i2⟩ := A10 h hi (F (6 * i + 1))
        have e1 : f_Tc_fault X (F (6 * i + 1)) h = some (r, h1) := e1
        have e2 : f_Mo_fault Y (F (6 * i + 1)) h1 = some (r, h2) := e2
        have O9 : isO h1 9 Y = some () := isO_y (k1 Y kY)
        simp only [r1 h rfl, r1 h1 x1, O8, O9, e1, e2, bind_some', if_true]
        exact nx h2 i2 x2
      rw [if_neg c10]
      by_cases c11 : (F (6 * i) &&& 63) = 11
      · rw [if_pos c11]
        obtain ⟨r, h1, h2, e1, x1, k1, e2, x2, i2⟩ := A11 h hi (F (6 * i + 1)) (F (6 * i + 2))
        have e1 : f_Tc_of X (F (6 * i + 1)) (F (6 * i + 2)) h = some (r, h1) := e1
        have e2 : f_Mo_of Y (F (6 * i + 1)) (F (6 * i + 2)) h1 = some (r, h2) := e2
        have O9 : isO h1 9 Y = some () := isO_y (k1 Y kY)
        simp only [r1 h rfl, r1 h1 x1, r2 h rfl, r2 h1 x1, O8, O9, e1, e2, bind_some', if_true]
        exact nx h2 i2 x2
      rw [if_neg c11]
      by_cases c12 : (F (6 * i) &&& 63) = 12
      · rw [if_pos c12]
        obtain ⟨r, h1, h2, e1, x1, k1, e2, x2, i2⟩ := A12 h hi (F (6 * i + 1)) (F (6 * i + 2))
        have e1 : f_Tc_who X (F (6 * i + 1)) (F (6 * i + 2)) h = some (r, h1) := e1
        have e2 : f_Mo_who Y (F (6 * i + 1)) (F (6 * i + 2)) h1 = some (r, h2) := e2
        have O9 : isO h1 9 Y = some () := isO_y (k1 Y kY)
        simp only [r1 h rfl, r1 h1 x1, r2 h rfl, r2 h1 x1, O8, O9, e1, e2, bind_some', if_true]
        exact nx h2 i2 x2
      rw [if_neg c12]
      by_cases c13 : (F (6 * i) &&& 63) = 13
      · rw [if_pos c13]
        obtain ⟨r, h1, h2, e1, x1, k1, e2, x2, i2⟩ := A13 h hi (F (6 * i + 1)) (F (6 * i + 2))
        have e1 : f_Tc_book X (F (6 * i + 1)) (F (6 * i + 2)) h = some (r, h1) := e1
        have e2 : f_Mo_book Y (F (6 * i + 1)) (F (6 * i + 2)) h1 = some (r, h2) := e2
        have O9 : isO h1 9 Y = some () := isO_y (k1 Y kY)
        simp only [r1 h rfl, r1 h1 x1, r2 h rfl, r2 h1 x1, O8, O9, e1, e2, bind_some', if_true]
        exact nx h2 i2 x2
      rw [if_neg c13]
      by_cases c14 : (F (6 * i) &&& 63) = 14
      · rw [if_pos c14]
        obtain ⟨r, h1, h2, e1, x1, k1, e2, x2, i2⟩ := A14 h hi (F (6 * i + 1)) (F (6 * i + 2))
        have e1 : f_Tc_goes X (F (6 * i + 1)) (F (6 * i + 2)) h = some (r, h1) := e1
        have e2 : f_Mo_goes Y (F (6 * i + 1)) (F (6 * i + 2)) h1 = some (r, h2) := e2
        have O9 : isO h1 9 Y = some () := isO_y (k1 Y kY)
        simp only [r1 h rfl, r1 h1 x1, r2 h rfl, r2 h1 x1, O8, O9, e1, e2, bind_some', if_true]
        exact nx h2 i2 x2
      rw [if_neg c14]
      by_cases c15 : (F (6 * i) &&& 63) = 15
      · rw [if_pos c15]
        obtain ⟨r, h1, h2, e1, x1, k1, e2, x2, i2⟩ := A15 h hi (F (6 * i + 1))
        have e1 : f_Tc_rate X (F (6 * i + 1)) h = some (r, h1) := e1
        have e2 : f_Mo_rate Y (F (6 * i + 1)) h1 = some (r, h2) := e2
        have O9 : isO h1 9 Y = some () := isO_y (k1 Y kY)
        simp only [r1 h rfl, r1 h1 x1, O8, O9, e1, e2, bind_some', if_true]
        exact nx h2 i2 x2
      rw [if_neg c15]
      by_cases c16 : (F (6 * i) &&& 63) = 16
      · rw [if_pos c16]
        obtain ⟨r, h1, h2, e1, x1, k1, e2, x2, i2⟩ := A16 h hi (F (6 * i + 1)) (F (6 * i + 2)) (F (6 * i + 3))
        have e1 : f_Tc_order X (F (6 * i + 1)) (F (6 * i + 2)) (F (6 * i + 3)) h = some (r, h1) := e1
        have e2 : f_Mo_order Y (F (6 * i + 1)) (F (6 * i + 2)) (F (6 * i + 3)) h1 = some (r, h2) := e2
        have O9 : isO h1 9 Y = some () := isO_y (k1 Y kY)
        simp only [r1 h rfl, r1 h1 x1, r2 h rfl, r2 h1 x1, r3 h rfl, r3 h1 x1, O8, O9, e1, e2, bind_some', if_true]
        exact nx h2 i2 x2
      rw [if_neg c16]
      by_cases c17 : (F (6 * i) &&& 63) = 17
      · rw [if_pos c17]
        obtain ⟨r, h1, h2, e1, x1, k1, e2, x2, i2⟩ := A17 h hi (F (6 * i + 1))
        have e1 : f_Tc_ordered X (F (6 * i + 1)) h = some (r, h1) := e1
        have e2 : f_Mo_ordered Y (F (6 * i + 1)) h1 = some (r, h2) := e2
        have O9 : isO h1 9 Y = some () := isO_y (k1 Y kY)
        simp only [r1 h rfl, r1 h1 x1, O8, O9, e1, e2, bind_some', if_true]
        exact nx h2 i2 x2
      rw [if_neg c17]
      by_cases c18 : (F (6 * i) &&& 63) = 18
      · rw [if_pos c18]
        obtain ⟨r, h1, h2, e1, x1, k1, e2, x2, i2⟩ := A18 h hi (F (6 * i + 1)) (F (6 * i + 2))
        have e1 : f_Tc_hand X (F (6 * i + 1)) (F (6 * i + 2)) h = some (r, h1) := e1
        have e2 : f_Mo_hand Y (F (6 * i + 1)) (F (6 * i + 2)) h1 = some (r, h2) := e2
        have O9 : isO h1 9 Y = some () := isO_y (k1 Y kY)
        simp only [r1 h rfl, r1 h1 x1, r2 h rfl, r2 h1 x1, O8, O9, e1, e2, bind_some', if_true]
        exact nx h2 i2 x2
      rw [if_neg c18]
      by_cases c19 : (F (6 * i) &&& 63) = 19
      · rw [if_pos c19]
        obtain ⟨r, h1, h2, e1, x1, k1, e2, x2, i2⟩ := A19 h hi (F (6 * i + 1))
        have e1 : f_Tc_hands X (F (6 * i + 1)) h = some (r, h1) := e1
        have e2 : f_Mo_hands Y (F (6 * i + 1)) h1 = some (r, h2) := e2
        have O9 : isO h1 9 Y = some () := isO_y (k1 Y kY)
        simp only [r1 h rfl, r1 h1 x1, O8, O9, e1, e2, bind_some', if_true]
        exact nx h2 i2 x2
      rw [if_neg c19]
      by_cases c20 : (F (6 * i) &&& 63) = 20
      · rw [if_pos c20]
        obtain ⟨r, h1, h2, e1, x1, k1, e2, x2, i2⟩ := A20 h hi (F (6 * i + 1))
        have e1 : f_Tc_weight X (F (6 * i + 1)) h = some (r, h1) := e1
        have e2 : f_Mo_weight Y (F (6 * i + 1)) h1 = some (r, h2) := e2
        have O9 : isO h1 9 Y = some () := isO_y (k1 Y kY)
        simp only [r1 h rfl, r1 h1 x1, O8, O9, e1, e2, bind_some', if_true]
        exact nx h2 i2 x2
      rw [if_neg c20]
      by_cases c21 : (F (6 * i) &&& 63) = 21
      · rw [if_pos c21]
        obtain ⟨r, h1, h2, e1, x1, k1, e2, x2, i2⟩ := A21 h hi (F (6 * i + 1)) (F (6 * i + 2))
        have e1 : f_Tc_crates X (F (6 * i + 1)) (F (6 * i + 2)) h = some (r, h1) := e1
        have e2 : f_Mo_crates Y (F (6 * i + 1)) (F (6 * i + 2)) h1 = some (r, h2) := e2
        have O9 : isO h1 9 Y = some () := isO_y (k1 Y kY)
        simp only [r1 h rfl, r1 h1 x1, r2 h rfl, r2 h1 x1, O8, O9, e1, e2, bind_some', if_true]
        exact nx h2 i2 x2
      rw [if_neg c21]
      by_cases c22 : (F (6 * i) &&& 63) = 22
      · rw [if_pos c22]
        obtain ⟨r, h1, h2, e1, x1, k1, e2, x2, i2⟩ := A22 h hi (F (6 * i + 1))
        have e1 : f_Tc_bag X (F (6 * i + 1)) h = some (r, h1) := e1
        have e2 : f_Mo_bag Y (F (6 * i + 1)) h1 = some (r, h2) := e2
        have O9 : isO h1 9 Y = some () := isO_y (k1 Y kY)
        simp only [r1 h rfl, r1 h1 x1, O8, O9, e1, e2, bind_some', if_true]
        exact nx h2 i2 x2
      rw [if_neg c22]
      by_cases c23 : (F (6 * i) &&& 63) = 23
      · rw [if_pos c23]
        obtain ⟨r, h1, h2, e1, x1, k1, e2, x2, i2⟩ := A23 h hi (F (6 * i + 1)) (F (6 * i + 2))
        have e1 : f_Tc_weighed X (F (6 * i + 1)) (F (6 * i + 2)) h = some (r, h1) := e1
        have e2 : f_Mo_weighed Y (F (6 * i + 1)) (F (6 * i + 2)) h1 = some (r, h2) := e2
        have O9 : isO h1 9 Y = some () := isO_y (k1 Y kY)
        simp only [r1 h rfl, r1 h1 x1, r2 h rfl, r2 h1 x1, O8, O9, e1, e2, bind_some', if_true]
        exact nx h2 i2 x2
      rw [if_neg c23]
      by_cases c24 : (F (6 * i) &&& 63) = 24
      · rw [if_pos c24]
        obtain ⟨r, h1, h2, e1, x1, k1, e2, x2, i2⟩ := A24 h hi (F (6 * i + 1))
        have e1 : f_Tc_suspects X (F (6 * i + 1)) h = some (r, h1) := e1
        have e2 : f_Mo_suspects Y (F (6 * i + 1)) h1 = some (r, h2) := e2
        have O9 : isO h1 9 Y = some () := isO_y (k1 Y kY)
        simp only [r1 h rfl, r1 h1 x1, O8, O9, e1, e2, bind_some', if_true]
        exact nx h2 i2 x2
      rw [if_neg c24]
      by_cases c25 : (F (6 * i) &&& 63) = 25
      · rw [if_pos c25]
        obtain ⟨r, h1, h2, e1, x1, k1, e2, x2, i2⟩ := A25 h hi (F (6 * i + 1)) (F (6 * i + 2)) (F (6 * i + 3)) (F (6 * i + 4))
        have e1 : f_Tc_driest X (F (6 * i + 1)) (F (6 * i + 2)) (F (6 * i + 3)) (F (6 * i + 4)) h = some (r, h1) := e1
        have e2 : f_Mo_driest Y (F (6 * i + 1)) (F (6 * i + 2)) (F (6 * i + 3)) (F (6 * i + 4)) h1 = some (r, h2) := e2
        have O9 : isO h1 9 Y = some () := isO_y (k1 Y kY)
        simp only [r1 h rfl, r1 h1 x1, r2 h rfl, r2 h1 x1, r3 h rfl, r3 h1 x1, r4 h rfl, r4 h1 x1, O8, O9, e1, e2, bind_some', if_true]
        exact nx h2 i2 x2
      rw [if_neg c25]
      by_cases c26 : (F (6 * i) &&& 63) = 26
      · rw [if_pos c26]
        obtain ⟨r, h1, h2, e1, x1, k1, e2, x2, i2⟩ := A26 h hi (F (6 * i + 1)) (F (6 * i + 2)) (F (6 * i + 3))
        have e1 : f_Tc_count X (F (6 * i + 1)) (F (6 * i + 2)) (F (6 * i + 3)) h = some (r, h1) := e1
        have e2 : f_Mo_count Y (F (6 * i + 1)) (F (6 * i + 2)) (F (6 * i + 3)) h1 = some (r, h2) := e2
        have O9 : isO h1 9 Y = some () := isO_y (k1 Y kY)
        simp only [r1 h rfl, r1 h1 x1, r2 h rfl, r2 h1 x1, r3 h rfl, r3 h1 x1, O8, O9, e1, e2, bind_some', if_true]
        exact nx h2 i2 x2
      rw [if_neg c26]
      by_cases c27 : (F (6 * i) &&& 63) = 27
      · rw [if_pos c27]
        obtain ⟨r, h1, h2, e1, x1, k1, e2, x2, i2⟩ := A27 h hi (F (6 * i + 1)) (F (6 * i + 2))
        have e1 : f_Tc_likely X (F (6 * i + 1)) (F (6 * i + 2)) h = some (r, h1) := e1
        have e2 : f_Mo_likely Y (F (6 * i + 1)) (F (6 * i + 2)) h1 = some (r, h2) := e2
        have O9 : isO h1 9 Y = some () := isO_y (k1 Y kY)
        simp only [r1 h rfl, r1 h1 x1, r2 h rfl, r2 h1 x1, O8, O9, e1, e2, bind_some', if_true]
        exact nx h2 i2 x2
      rw [if_neg c27]
      by_cases c28 : (F (6 * i) &&& 63) = 28
      · rw [if_pos c28]
        obtain ⟨r, h1, h2, e1, x1, k1, e2, x2, i2⟩ := A28 h hi (F (6 * i + 1))
        have e1 : f_Tc_salt X (F (6 * i + 1)) h = some (r, h1) := e1
        have e2 : f_Mo_salt Y (F (6 * i + 1)) h1 = some (r, h2) := e2
        have O9 : isO h1 9 Y = some () := isO_y (k1 Y kY)
        simp only [r1 h rfl, r1 h1 x1, O8, O9, e1, e2, bind_some', if_true]
        exact nx h2 i2 x2
      rw [if_neg c28]
      by_cases c29 : (F (6 * i) &&& 63) = 29
      · rw [if_pos c29]
        obtain ⟨r, h1, h2, e1, x1, k1, e2, x2, i2⟩ := A29 h hi (F (6 * i + 1))
        have e1 : f_Tc_won X (F (6 * i + 1)) h = some (r, h1) := e1
        have e2 : f_Mo_won Y (F (6 * i + 1)) h1 = some (r, h2) := e2
        have O9 : isO h1 9 Y = some () := isO_y (k1 Y kY)
        simp only [r1 h rfl, r1 h1 x1, O8, O9, e1, e2, bind_some', if_true]
        exact nx h2 i2 x2
      rw [if_neg c29]
      by_cases c30 : (F (6 * i) &&& 63) = 30
      · rw [if_pos c30]
        obtain ⟨r, h1, h2, e1, x1, k1, e2, x2, i2⟩ := A30 h hi (F (6 * i + 1)) (F (6 * i + 2))
        have e1 : f_Tc_ledger X (F (6 * i + 1)) (F (6 * i + 2)) h = some (r, h1) := e1
        have e2 : f_Mo_ledger Y (F (6 * i + 1)) (F (6 * i + 2)) h1 = some (r, h2) := e2
        have O9 : isO h1 9 Y = some () := isO_y (k1 Y kY)
        simp only [r1 h rfl, r1 h1 x1, r2 h rfl, r2 h1 x1, O8, O9, e1, e2, bind_some', if_true]
        exact nx h2 i2 x2
      rw [if_neg c30]
      by_cases c31 : (F (6 * i) &&& 63) = 31
      · rw [if_pos c31]
        obtain ⟨r, h1, h2, e1, x1, k1, e2, x2, i2⟩ := A31 h hi (F (6 * i + 1))
        have e1 : f_Tc_altered X (F (6 * i + 1)) h = some (r, h1) := e1
        have e2 : f_Mo_altered Y (F (6 * i + 1)) h1 = some (r, h2) := e2
        have O9 : isO h1 9 Y = some () := isO_y (k1 Y kY)
        simp only [r1 h rfl, r1 h1 x1, O8, O9, e1, e2, bind_some', if_true]
        exact nx h2 i2 x2
      rw [if_neg c31]
      by_cases c32 : (F (6 * i) &&& 63) = 32
      · rw [if_pos c32]
        obtain ⟨r, h1, h2, e1, x1, k1, e2, x2, i2⟩ := A32 h hi (F (6 * i + 1)) (F (6 * i + 2))
        have e1 : f_Tc_years X (F (6 * i + 1)) (F (6 * i + 2)) h = some (r, h1) := e1
        have e2 : f_Mo_years Y (F (6 * i + 1)) (F (6 * i + 2)) h1 = some (r, h2) := e2
        have O9 : isO h1 9 Y = some () := isO_y (k1 Y kY)
        simp only [r1 h rfl, r1 h1 x1, r2 h rfl, r2 h1 x1, O8, O9, e1, e2, bind_some', if_true]
        exact nx h2 i2 x2
      rw [if_neg c32]
      by_cases c33 : (F (6 * i) &&& 63) = 33
      · rw [if_pos c33]
        obtain ⟨r, h1, h2, e1, x1, k1, e2, x2, i2⟩ := A33 h hi (F (6 * i + 1))
        have e1 : f_Tc_dry X (F (6 * i + 1)) h = some (r, h1) := e1
        have e2 : f_Mo_dry Y (F (6 * i + 1)) h1 = some (r, h2) := e2
        have O9 : isO h1 9 Y = some () := isO_y (k1 Y kY)
        simp only [r1 h rfl, r1 h1 x1, O8, O9, e1, e2, bind_some', if_true]
        exact nx h2 i2 x2
      rw [if_neg c33]
      by_cases c34 : (F (6 * i) &&& 63) = 34
      · rw [if_pos c34]
        obtain ⟨r, h1, h2, e1, x1, k1, e2, x2, i2⟩ := A34 h hi (F (6 * i + 1)) (F (6 * i + 2))
        have e1 : f_Tc_votes X (F (6 * i + 1)) (F (6 * i + 2)) h = some (r, h1) := e1
        have e2 : f_Mo_votes Y (F (6 * i + 1)) (F (6 * i + 2)) h1 = some (r, h2) := e2
        have O9 : isO h1 9 Y = some () := isO_y (k1 Y kY)
        simp only [r1 h rfl, r1 h1 x1, r2 h rfl, r2 h1 x1, O8, O9, e1, e2, bind_some', if_true]
        exact nx h2 i2 x2
      rw [if_neg c34]
      by_cases c35 : (F (6 * i) &&& 63) = 35
      · rw [if_pos c35]
        obtain ⟨r, h1, h2, e1, x1, k1, e2, x2, i2⟩ := A35 h hi (F (6 * i + 1))
        have e1 : f_Tc_game X (F (6 * i + 1)) h = some (r, h1) := e1
        have e2 : f_Mo_game Y (F (6 * i + 1)) h1 = some (r, h2) := e2
        have O9 : isO h1 9 Y = some () := isO_y (k1 Y kY)
        simp only [r1 h rfl, r1 h1 x1, O8, O9, e1, e2, bind_some', if_true]
        exact nx h2 i2 x2
      rw [if_neg c35]
      by_cases c36 : (F (6 * i) &&& 63) = 36
      · rw [if_pos c36]
        obtain ⟨r, h1, h2, e1, x1, k1, e2, x2, i2⟩ := A36 h hi 
        have e1 : f_Tc_undo X  h = some (r, h1) := e1
        have e2 : f_Mo_undo Y  h1 = some (r, h2) := e2
        have O9 : isO h1 9 Y = some () := isO_y (k1 Y kY)
        simp only [O8, O9, e1, e2, bind_some', if_true]
        exact nx h2 i2 x2
      rw [if_neg c36]
      by_cases c37 : (F (6 * i) &&& 63) = 37
      · rw [if_pos c37]
        rw [r1 h rfl, bind_some']
        have both : ∀ z : Int32, (z = 0 ∨ z = 1) → (F (6 * i + 1) = 0 ↔ z = 0) → ∃ hF, f_Lw_law_1369 (fun a0 a1 a2 x3 h => f_Lw_law_18 n a0 a1 a2 x3 h) sb X Y (nI (6 * i)) z X h = some (1, hF) := by
          intro z hz hzz
          obtain ⟨r, h1, h2, e1, x1, k1, e2, x2, i2⟩ := A37 h hi z hz
          have e1 : f_Tc_image X z h = some (r, h1) := e1
          have e2 : f_Mo_image Y z h1 = some (r, h2) := e2
          have O9 : isO h1 9 Y = some () := isO_y (k1 Y kY)
          unfold f_Lw_law_1369
          simp only [O8, e1, bind_some', r1 h1 x1]
          by_cases z0 : F (6 * i + 1) = 0
          · obtain rfl := hzz.mp z0
            rw [if_pos z0]
            unfold f_Lw_law_1386
            simp only [O9, e2, bind_some', if_true]
            exact nx h2 i2 x2
          · obtain rfl : z = 1 := hz.resolve_left (fun q => z0 (hzz.mpr q))
            rw [if_neg z0]
            unfold f_Lw_law_1386
            simp only [O9, e2, bind_some', if_true]
            exact nx h2 i2 x2
        by_cases z0 : F (6 * i + 1) = 0
        · rw [if_pos z0]; exact both 0 (Or.inl rfl) ⟨fun _ => rfl, fun _ => z0⟩
        · rw [if_neg z0]; exact both 1 (Or.inr rfl) ⟨fun q => absurd q z0, fun q => absurd q (by decide)⟩
      rw [if_neg c37]
      by_cases c38 : (F (6 * i) &&& 63) = 38
      · rw [if_pos c38]
        obtain ⟨r, h1, h2, e1, x1, k1, e2, x2, i2⟩ := A38 h hi (F (6 * i + 1))
        have e1 : f_Tc_look X (F (6 * i + 1)) h = some (r, h1) := e1
        have e2 : f_Mo_look Y (F (6 * i + 1)) h1 = some (r, h2) := e2
        have O9 : isO h1 9 Y = some () := isO_y (k1 Y kY)
        simp only [r1 h rfl, r1 h1 x1, O8, O9, e1, e2, bind_some', if_true]
        exact nx h2 i2 x2
      rw [if_neg c38]
      exact nx h hi rfl
