/-! ===== the two bodies answer alike, over the whole script ===== -/
theorem all_ops (b : Nat) : AllBoth (Inv b) b (b + 131) := ⟨op_state b, op_traveller b, op_officer b, op_set b, op_act b, op_weigh b, op_hours b, op_feed b, op_end b, op_text b, op_fault b, op_of b, op_who b, op_book b, op_goes b, op_rate b, op_order b, op_ordered b, op_hand b, op_hands b, op_weight b, op_crates b, op_bag b, op_weighed b, op_suspects b, op_driest b, op_count b, op_likely b, op_salt b, op_won b, op_ledger b, op_altered b, op_years b, op_dry b, op_votes b, op_game b, op_undo b, op_image b, op_look b⟩
theorem pure_law (b b0 : Nat) (X : XS) (hL : X.2.2.2.1 ≤ 3072) (h1 : X.2.2.1 = b) : ∃ hF, f_Lw_law b (h00 b0 X) = some (1, hF) := by
  obtain ⟨h2, h4, e1, e2, e3, i4, x4⟩ := start_inv b0 X
  have g0 : gN (h00 b0 X) = b0 := rfl
  unfold f_Lw_law
  rw [bind_some', g0, e1, bind_some', bind_some', e2, e3, bind_some']
  have hI : ∀ h, Inv b0 h → gK h b0 = (0, 8) ∧ gK h (b0 + 131) = (0, 9) := fun h I => ⟨I.1.K 0 (by decide) rfl, I.1.K 131 (by decide) rfl⟩
  exact law_loop (Inv b0) b0 (b0 + 131) b X.2.2.2.1 hL hI (all_ops b0) 514 0 h4 i4 (by rw [x4]; exact h1) (by rw [x4]) (by omega) (by omega)
