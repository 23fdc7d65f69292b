theorem z_okAll {mi pc : Nat} {r : Instr × Nat × List Nat} (h : z_at mi pc = some r) : z_ok mi (pc, r) = true := sorry
