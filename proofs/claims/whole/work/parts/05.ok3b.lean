theorem z_ol3 : (z_r338_3.all fun c => c.all (z_ok 338)) = true := by decide +kernel
theorem z_ol4 : (z_r338_4.all fun c => c.all (z_ok 338)) = true := by decide +kernel
