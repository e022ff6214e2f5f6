theorem cbX0 : cb 0 RX0 TX0 tyX0 1 := ⟨rfl, by decide +kernel, tyX0_ok, nmX0⟩
theorem cbX1 : cb 1 RX1 TX1 tyX1 2 := ⟨rfl, by decide +kernel, tyX1_ok, nmX1⟩
theorem cbX2 : cb 2 RX2 TX2 tyX2 20 := ⟨rfl, by decide +kernel, tyX2_ok, nmX2⟩
theorem cbX3 : cb 3 RX3 TX3 tyX3 12 := ⟨rfl, by decide +kernel, tyX3_ok, nmX3⟩
theorem cbX4 : cb 4 RX4 TX4 tyX4 13 := ⟨rfl, by decide +kernel, tyX4_ok, nmX4⟩
theorem cbX6 : cb 5 RX6 TX6 tyX6 11 := ⟨rfl, by decide +kernel, tyX6_ok, nmX6⟩
theorem cbX7 : cb 6 RX7 TX7 tyX7 28 := ⟨rfl, by decide +kernel, tyX7_ok, nmX7⟩
