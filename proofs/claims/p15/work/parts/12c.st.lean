section ST2
def asz (a : Nat) : Nat := bif [84, 86, 90, 96, 97, 99, 104, 105].contains a then 2 else bif [16, 18, 25, 53, 55, 62, 106, 107].contains a then 3 else bif [101].contains a then 4 else bif [91].contains a then 6 else bif [103].contains a then 9 else bif [108].contains a then 27 else bif [11, 13, 48, 50].contains a then 30 else bif [27, 29, 31, 64, 66, 68].contains a then 40 else bif [92].contains a then 54 else bif [87, 88, 89].contains a then 80 else bif [34, 36, 38, 40, 71, 73, 75, 77].contains a then 123 else bif [93, 94].contains a then 240 else bif [21, 23, 42, 58, 60, 79].contains a then 300 else bif [85].contains a then 540 else bif [2, 8, 45, 83].contains a then 600 else bif [4].contains a then 841 else bif [100].contains a then 1202 else bif [95].contains a then 2160 else bif [102].contains a then 2400 else bif [98].contains a then 12600 else 0
def st0 : fS := (fun a f => bif Nat.beq f 2 && Nat.beq a 81 then (-1 : Int32) else bif Nat.beq f 4 && Nat.beq a 82 then (-1 : Int32) else bif Nat.beq f 5 && Nat.beq a 82 then (-1 : Int32) else 0, fun a => List.replicate (asz a) 0, false, true, true, 0)
set_option maxRecDepth 1000000 in
theorem st0_ok (LS : Nat) (xs : Nat → Int32) : mi_evt t_L_law mi_wr true LS xs (mi_ev mi_ms true LS xs 3000 12) 13 (0, mi_ent 7 [.float 0], [], []) = some (23, [some (.float 0), some (.ref 0), some (.ref 82), some (.ref 109), some (.int 0), none, none], [], enc st0) := rfl
theorem zok_st0 : zok st0 = true := by decide +kernel
theorem st0_z : mi_z (enc st0) ≤ 1000000 := by
  rw [zok_eq zok_st0]
  decide
/-- what is left: the law's program comes to its end -/
theorem law_of {L : Nat} {xs : Nat → Int32} {r : fS} (h : f_L_law_23 L xs 1000 0 st0 = some r) : ∃ (n : Nat) (lo : mL) (h : mH), mi_to t_L_law mi_wr true L xs (mi_call mi_ms true L xs 12) n (0, mi_ent 7 [.float 0], [], []) (23, lo, [], h) ∧ h.length ≤ 1000 ∧ mi_z h ≤ 1000000 ∧ mi_lw 12 L xs 1000 (23, lo, [], h) :=
  ⟨_, _, _, mi_evt_ok (fun y As h v h1 => mi_ev_ok 12 y As h v h1) _ _ _ (st0_ok L xs), (show (enc st0).length ≤ 1000 by rw [enc_len]; decide), st0_z, g_L_law_23 L xs 1000 0 none none st0 r h⟩
end ST2
