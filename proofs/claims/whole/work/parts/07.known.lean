/-! the fields' words are among the tables' -/
theorem iX0 : ∀ w ∈ u_ws RX0 TX0 6, w ∈ lw_tbl ∧ goodWord w = true := by decide +kernel
theorem iX1 : ∀ w ∈ u_ws RX1 TX1 7, w ∈ lw_tbl ∧ goodWord w = true := by decide +kernel
theorem iX2 : ∀ w ∈ u_ws RX2 TX2 5, w ∈ lw_tbl ∧ goodWord w = true := by decide +kernel
theorem iX3 : ∀ w ∈ u_ws RX3 TX3 3, w ∈ lw_tbl ∧ goodWord w = true := by decide +kernel
theorem iX4 : ∀ w ∈ u_ws RX4 TX4 11, w ∈ lw_tbl ∧ goodWord w = true := by decide +kernel
theorem iX5 : ∀ w ∈ u_ws RX5 TX5 20, w ∈ lw_tbl ∧ goodWord w = true := by decide +kernel
theorem iX6 : ∀ w ∈ u_ws RX6 TX6 3, w ∈ lw_tbl ∧ goodWord w = true := by decide +kernel
theorem iX7 : ∀ w ∈ u_ws RX7 TX7 10, w ∈ lw_tbl ∧ goodWord w = true := by decide +kernel
theorem iX8 : ∀ w ∈ u_ws RX8 TX8 6, w ∈ lw_tbl ∧ goodWord w = true := by decide +kernel
theorem iX9 : ∀ w ∈ u_ws RX9 TX9 74, w ∈ lw_tbl ∧ goodWord w = true := by decide +kernel
