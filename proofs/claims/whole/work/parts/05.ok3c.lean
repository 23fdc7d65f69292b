theorem z_ol5 : (z_r338_5.all fun c => c.all (z_ok 338)) = true := by decide +kernel
theorem z_ol6 : (z_r338_6.all fun c => c.all (z_ok 338)) = true := by decide +kernel
