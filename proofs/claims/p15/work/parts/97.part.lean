section PRT
theorem part_LF (L : Nat) : LF cF (fun _ => Jv) L := LF_all cF rfl rfl L
theorem part_st0 : fJ Jv st0 := ⟨S0, sr0, zS0, Jv0⟩
end PRT
