theorem z_ol0 : (z_r338_0.all fun c => c.all (z_ok 338)) = true := by decide +kernel
theorem z_ol1 : (z_r338_1.all fun c => c.all (z_ok 338)) = true := by decide +kernel
theorem z_ol2 : (z_r338_2.all fun c => c.all (z_ok 338)) = true := by decide +kernel
