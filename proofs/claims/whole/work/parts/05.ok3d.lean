theorem z_ol7 : (z_r338_7.all fun c => c.all (z_ok 338)) = true := by decide +kernel
theorem z_ol8 : (z_r338_8.all fun c => c.all (z_ok 338)) = true := by decide +kernel
