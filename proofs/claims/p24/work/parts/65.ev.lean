set_option maxHeartbeats 400000000 in
set_option maxRecDepth 100000 in
theorem ev_LA : (x_LA γS).1 = 0 ∧ (x_LA γS).2.1 = 1 := by decide +kernel
set_option maxHeartbeats 400000000 in
set_option maxRecDepth 100000 in
theorem ev_most : (x_L_most γS).1 = 0 ∧ (x_L_most γS).2.1 = 1 := by decide +kernel
