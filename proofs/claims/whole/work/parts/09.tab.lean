theorem sm_tab {me pc : Nat} {i : ClassFile.Instr} {len : Nat} {x : sm_X} (h : sm_at me pc = some (i, len, x)) : sm_chk me pc i len x = true := sorry
