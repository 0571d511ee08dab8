section BYT
theorem by_sl : ∀ k : Nat, k < 8 → ((((8 : Int32) * Int32.ofInt (k : Int)).toInt64 &&& 63).toBitVec.smod 64).toNat = 8 * k := by decide +kernel
theorem by_su : ∀ k : Nat, k < 8 → ((((8 : Int32) * Int32.ofInt (k : Int)).toInt64.toUInt64 &&& Int64.toUInt64 63).toBitVec % 64).toNat = 8 * k := by decide +kernel
theorem by_m64 : ∀ i : Nat, i < 64 → (255 : Int64).toBitVec.getLsbD i = decide (i < 8) := by decide +kernel
theorem by_m32 : ∀ i : Nat, i < 32 → (255 : Int32).toBitVec.getLsbD i = decide (i < 8) := by decide +kernel
theorem by_eq (j : Int64) {k : Nat} (hk : k < 8) : byC j k = byM j k := by
  unfold byC byM
  congr 1
  apply Int32.toBitVec_inj.mp
  have c1 : (mi_ushr j ((8 : Int32) * Int32.ofInt (k : Int))).toBitVec = j.toBitVec >>> (8 * k) := by
    show (j.toUInt64 >>> (((8 : Int32) * Int32.ofInt (k : Int)).toInt64.toUInt64 &&& Int64.toUInt64 63)).toBitVec = _
    rw [UInt64.toBitVec_shiftRight]
    show j.toUInt64.toBitVec >>> ((((8 : Int32) * Int32.ofInt (k : Int)).toInt64.toUInt64 &&& Int64.toUInt64 63).toBitVec % 64).toNat = _
    rw [by_su k hk]
    rfl
  have c2 : (mi_sshr j ((8 : Int32) * Int32.ofInt (k : Int))).toBitVec = j.toBitVec.sshiftRight (8 * k) := by
    show (j >>> (((8 : Int32) * Int32.ofInt (k : Int)).toInt64 &&& 63)).toBitVec = _
    rw [Int64.toBitVec_shiftRight]
    show j.toBitVec.sshiftRight ((((8 : Int32) * Int32.ofInt (k : Int)).toInt64 &&& 63).toBitVec.smod 64).toNat = _
    rw [by_sl k hk]
  rw [Int32.toBitVec_and, Int64.toBitVec_toInt32, Int64.toBitVec_toInt32, Int64.toBitVec_and, c1, c2]
  apply BitVec.eq_of_getLsbD_eq
  intro i hi
  rw [BitVec.getLsbD_and, BitVec.getLsbD_signExtend, BitVec.getLsbD_signExtend, if_pos (show i < 64 by omega), if_pos (show i < 64 by omega), BitVec.getLsbD_and, by_m64 i (by omega), by_m32 i hi]
  by_cases h8 : i < 8
  · rw [BitVec.getLsbD_ushiftRight, BitVec.getLsbD_sshiftRight]
    simp only [h8, hi, decide_true, Bool.and_true, Bool.true_and]
    rw [if_pos (show 8 * k + i < 64 by omega), decide_eq_false (show ¬ 64 ≤ i by omega)]
    simp
  · simp [h8]
theorem by_rg (j : Int64) (k : Int) : 0 ≤ byM j k ∧ byM j k ≤ 255 := by
  unfold byM
  generalize (mi_sshr j ((8 : Int32) * Int32.ofInt k)).toInt32 = x
  have h : (x &&& 255).toBitVec.toNat ≤ 255 := by
    rw [Int32.toBitVec_and, BitVec.toNat_and]
    exact Nat.and_le_right
  have e : (x &&& 255).toInt = ((x &&& 255).toBitVec.toNat : Int) := by
    show (x &&& 255).toBitVec.toInt = _
    exact BitVec.toInt_eq_toNat_of_lt (by omega)
  omega
theorem bys_eq (w : Int64) : ∀ k : Nat, k ≤ 8 → bysC w k = bysM w k := by
  intro k
  induction k with
  | zero => intro _; rfl
  | succ k ih => intro h; rw [bysC, bysM, ih (by omega), by_eq w (by omega)]
theorem bys_rg (w : Int64) : ∀ (k : Nat), ∀ c ∈ bysM w k, 0 ≤ c ∧ c ≤ 255 := by
  intro k
  induction k with
  | zero => intro c hc; exact absurd hc List.not_mem_nil
  | succ k ih =>
    intro c hc
    rcases List.mem_cons.mp hc with e | e
    · rw [e]; exact by_rg w k
    · exact ih c e
end BYT
