theorem iwX0 : ∀ w ∈ u_ws RX0 TX0 4, w ∈ uW := by decide +kernel
theorem iwX1 : ∀ w ∈ u_ws RX1 TX1 13, w ∈ uW := by decide +kernel
theorem iwX2 : ∀ w ∈ u_ws RX2 TX2 10, w ∈ uW := by decide +kernel
theorem iwX3 : ∀ w ∈ u_ws RX3 TX3 11, w ∈ uW := by decide +kernel
theorem iwX4 : ∀ w ∈ u_ws RX4 TX4 7, w ∈ uW := by decide +kernel
theorem iwX5 : ∀ w ∈ u_ws RX5 TX5 4, w ∈ uW := by decide +kernel
theorem iwX6 : ∀ w ∈ u_ws RX6 TX6 5, w ∈ uW := by decide +kernel
theorem iwX7 : ∀ w ∈ u_ws RX7 TX7 8, w ∈ uW := by decide +kernel
theorem iwX8 : ∀ w ∈ u_ws RX8 TX8 4, w ∈ uW := by decide +kernel
theorem iwX9 : ∀ w ∈ u_ws RX9 TX9 13, w ∈ uW := by decide +kernel
theorem iwX10 : ∀ w ∈ u_ws RX10 TX10 63, w ∈ uW := by decide +kernel
theorem kf_X10_9 : Cond.fieldLink "FireTaxModel" 9 "FireTaxModel" "scalar" "[I" ∈ uW := uW_5 (i := 31) rfl rfl
theorem kc_X10_152 : LSt RX10 152 yX10_in cX10_in 6 (some .boolean) 3 := ⟨uW_6 (i := 61) rfl rfl, uW_6 (i := 59) rfl rfl, uW_6 (i := 60) rfl rfl, uW_1 (i := 11) rfl rfl, ⟨by decide +kernel, by decide +kernel, by decide +kernel⟩⟩
theorem kc_X10_156 : LSt RX10 156 yX10_has cX10_has 2 (some .boolean) 2 := ⟨uW_6 (i := 72) rfl rfl, uW_6 (i := 70) rfl rfl, uW_6 (i := 71) rfl rfl, uW_1 (i := 11) rfl rfl, ⟨by decide +kernel, by decide +kernel, by decide +kernel⟩⟩
