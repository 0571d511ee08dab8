section NE6
theorem ne_ata : ∀ w ∈ ne_atS RX6 146 ["java/lang/RuntimeException", "java/lang/Exception"], w ∈ mi_good ∨ w ∈ mi_nw := by decide +kernel
theorem ne_atb : ∀ w ∈ Cond.classLink RX6 142 Bundle.nN :: Cond.initialized Bundle.nN :: ne_atS RX6 146 ["java/lang/RuntimeException", "java/lang/Exception"], vx_ot w = true := by decide +kernel
theorem ne_all : mi_npe := ⟨mi_throwN_ok (ik := 142) (is := 144) (ic := 146) (text := "the VALUE is MISSING") (names := ["java/lang/RuntimeException", "java/lang/Exception"]) (by decide +kernel) (by decide +kernel) (by decide +kernel) (by decide +kernel) (by decide +kernel) (by decide +kernel) (by decide +kernel) (by decide) (by decide +kernel) (by decide +kernel) (by decide +kernel) ne_ata ne_atb,
  mi_throwN_ok (ik := 142) (is := 144) (ic := 146) (text := "the VALUE is MISSING") (names := ["java/lang/RuntimeException", "java/lang/Exception"]) (by decide +kernel) (by decide +kernel) (by decide +kernel) (by decide +kernel) (by decide +kernel) (by decide +kernel) (by decide +kernel) (by decide) (by decide +kernel) (by decide +kernel) (by decide +kernel) ne_ata ne_atb⟩
end NE6
