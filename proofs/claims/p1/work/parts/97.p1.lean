section PONE
/-- one call on a fresh object -/
def J1 : Nat → iS → Prop
  | 0, S => S = S0
  | _ + 1, S => zS S
theorem p1_feed (n : Int) (w : Int64) (hn : rg n) : pI true (J1 1) (j_X6_feed n w) (j_X7_feed n w) S0 := by
  have i1 : jI S0 1 1 = 0 := rfl
  have i2 : jI S0 82 2 = 0 := rfl
  by_cases h : n < 1 ∨ 8 < n
  · exact ⟨_, _, _, _, m6_feedO h, m7_feedO h, zS_kI zS0, fun _ => rfl⟩
  · have i3 : jI (gaL S0 1 1 2 (bysC w n.toNat)) 82 2 = 0 := by rw [gaL_I (.inl (by decide))]; rfl
    refine ⟨_, _, _, _, m6_feed zS0 (by omega) h (by omega), m7_feed (gaL_zS zS0) (by omega) h (by omega), gaL_zS (zS_kI (gaL_zS zS0)), fun _ => ?_⟩
    rw [i1, i3]
theorem p1_text : ∃ S1, j_X2_readText true 0 S0 = some (1, S1) ∧ zS S1 ∧ jP1 S1 = true ∧ jI S1 63 1 = 0 ∧ (∀ f, jI S1 82 f = jI S0 82 f) ∧ ∀ a, jA S1 a = jA S0 a := by
  unfold j_X2_readText j_X2_readText_0 j_X0_start j_X0_start_0 j_X0_nextLine j_X0_nextLine_0
  rw [e0_step (zS_kI (zS_kI (zS_kI zS0))) (by decide)]
  refine ⟨_, rfl, fun a => zS0 a, rfl, rfl, fun f => ?_, fun a => rfl⟩
  rfl
theorem p1_read : pI true (J1 1) j_X6_read j_X7_read S0 := by
  obtain ⟨S1, e, z1, b1, c1, i1, a1⟩ := p1_text
  have e6 : j_X6_read S0 = some (0, kI (kP1 (kP0 (kI S1 1 1 0) (jP1 S1)) (jP0 S1)) 0 6 1) := by
    unfold j_X6_read j_X6_read_0
    rw [show jP1 S0 = true from rfl, show jI S0 0 7 = 0 from rfl, e, Option.bind_some, eR_clear, Option.bind_some]
    refine it (show ¬ (1 : Int) = 0 by decide) ?_
    show some (jI S1 (gadr (jP1 S1) + 20) 1, kI (kP1 (kP0 (kI S1 1 1 0) (jP1 S1)) (jP0 S1)) 0 6 1) = _
    rw [show jI S1 (gadr (jP1 S1) + 20) 1 = 0 from by rw [b1]; exact c1]
  generalize hS2 : kI (kP1 (kP0 (kI S1 1 1 0) (jP1 S1)) (jP0 S1)) 0 6 1 = S2 at e6
  have z2 : zS S2 := by subst hS2; exact z1
  have q2 : ∀ f, jI S2 82 f = jI S0 82 f := by subst hS2; exact i1
  have g2 : ∀ a, jA S2 a = jA S0 a := by subst hS2; exact a1
  have w84 : jA S2 84 = [0, 0] := g2 84
  have w86 : jA S2 86 = [0, 0] := g2 86
  have w90 : jA S2 90 = [0, 0] := g2 90
  have w96 : jA S2 96 = [0, 0] := g2 96
  have w97 : jA S2 97 = [0, 0] := g2 97
  have w99 : jA S2 99 = [0, 0] := g2 99
  refine ⟨0, S2, 0, ?_⟩
  unfold j_X7_read j_X7_read_0 j_X7_read_89
  rw [w84, w86, w90, w96, w97, w99]
  generalize hT : (kA (kA (kA (kA (kA (kA (kI (kI (kI (kI (kI (kI (kI S2 82 0 (0 : Int)) 82 27 (0 : Int)) 82 28 (1 : Int)) 82 29 (0 : Int)) 82 30 (0 : Int)) 82 35 (0 : Int)) 82 38 (0 : Int)) 84 (([0, 0] : List Int).set 1 (0 : Int))) 86 (([0, 0] : List Int).set 1 (0 : Int))) 90 (([0, 0] : List Int).set 1 (0 : Int))) 96 (([0, 0] : List Int).set 1 (0 : Int))) 97 (([0, 0] : List Int).set 1 (0 : Int))) 99 (([0, 0] : List Int).set 1 (0 : Int))) = T
  have zT : zS T := by
    subst hT
    repeat (first | exact zS_kI z2 | refine zS_kI ?_ | refine zS_kA ?_ rfl)
  have t84 : jA T 84 = [0, 0] := by subst hT; rfl
  have t86 : jA T 86 = [0, 0] := by subst hT; rfl
  have t90 : jA T 90 = [0, 0] := by subst hT; rfl
  have t30 : jI T 82 30 = 0 := by subst hT; rfl
  have t35 : jI T 82 35 = 0 := by subst hT; rfl
  obtain ⟨T', et, zt', pt, _, _, ct, _, _, _⟩ := e7_takeOver (S := kI (kI (kI T 82 2 0) 82 4 (-1)) 82 5 (-1)) zT
  have c86 := ct 86 (by omega)
  rw [show jA (kI (kI (kI T 82 2 0) 82 4 (-1)) 82 5 (-1)) 86 = [0, 0] from t86] at c86
  have lie0 : ∀ {U : iS} {m k : Int}, jI U 82 30 = 0 → jI U 82 35 = 0 → j_X7_lie m k U = some U := by
    intro U m k h1 h2
    unfold j_X7_lie j_X7_lie_0 j_X7_lie_94
    exact ie (nn h1) (it h2 rfl)
  refine ⟨T', e6, ?_, zt', fun _ => rfl⟩
  refine it (by decide) (it (by decide) (it (by decide) (it (by decide) (it (by decide) (it (by decide) (it ?_ ?_))))))
  · rw [q2 2]; decide
  · rw [show fuel = 19999 + 1 from rfl, j_X7_read_90]
    refine it rfl (it (by rw [t84]; decide) ?_)
    rw [lie0 t30 t35, Option.bind_some]
    refine it (by rw [t86]; decide) ?_
    rw [lie0 t30 t35, Option.bind_some]
    refine ie (nn t30) ?_
    unfold j_X7_read_202
    refine ie (nn (show jI T 82 30 = 0 from t30)) ?_
    unfold j_X7_read_228
    refine it (show jI T 82 30 ≤ 0 by omega) ?_
    have gk : j_X7_guessKinds (kI (kI (kI T 82 2 0) 82 4 (-1)) 82 5 (-1)) = some (kI (kI (kI T 82 2 0) 82 4 (-1)) 82 5 (-1)) := by
      unfold j_X7_guessKinds j_X7_guessKinds_0
      rw [show fuel = 19999 + 1 from rfl, j_X7_guessKinds_2]
      refine it ?_ (it ?_ rfl)
      · rw [show jA (kI (kI (kI T 82 2 0) 82 4 (-1)) 82 5 (-1)) 90 = [0, 0] from t90]; decide
      · rw [show jA (kI (kI (kI T 82 2 0) 82 4 (-1)) 82 5 (-1)) 90 = [0, 0] from t90]; decide
    rw [gk, Option.bind_some, et, Option.bind_some]
    refine it ?_ ?_
    · rw [show (jA T' 86).length = 2 from zt' 86]; decide
    · rw [c86]; rfl
theorem e7_thr {S : iS} : j_X7_thrown S = some (jI S 82 0, S) := rfl
theorem o_in {c : Bool} {hs : List (String × Int)} {g6 : iS → Option ((Int ⊕ String) × iS)} {g7 : iS → Option (Int × iS)} (h6 : g6 S0 = some (.inl (-101), S0)) (h7 : ∀ o, g7 (kO S0 o) = some (-101, kI (kO S0 o) 82 0 0)) : pX c hs (J1 1) g6 g7 S0 :=
  ⟨_, _, h6, zS0, fun o => ⟨_, _, h7 o, rfl, fun a => zS0 a, ⟨by decide, by decide⟩, fun _ => ⟨rfl, rfl⟩⟩⟩
theorem h0_has (x : Int) {a : Nat} (h : jI S0 a 1 = 0) : j_X3_has a x S0 = some (0, S0) := by
  rw [eR_has zS0, bi_f (by omega)]
theorem h0_has4 (x : Int) {a : Nat} (h : jI S0 a 3 = 0) : j_X4_has a x S0 = some (0, S0) := by
  unfold j_X4_has j_X4_has_0 j_X4_has_16 j_X4_has_17
  rw [h]
  by_cases h1 : x < 0
  · exact it h1 rfl
  · exact ie h1 (it (by omega) rfl)
theorem h0_sos (x y : Int) {a : Nat} (h : jI S0 a 3 = 0) : j_X6_signOfSpan a x y S0 = some (.inl (-101), S0) := by
  unfold j_X6_signOfSpan j_X6_signOfSpan_0
  rw [h0_has4 x h]
  rfl
theorem h0_val (x y : Int) : j_X1_hasValue (jP0 S0) x y S0 = some (0, S0) := by
  unfold j_X1_hasValue j_X1_hasValue_0
  rw [h0_has x rfl]
  rfl
theorem m0_in (x : Int) {S : iS} : j_X7_in x 0 (0 - 1) S = some (0, S) := by
  rw [e_in, bi_f (by omega)]
theorem m0_col (x : Int) (S : iS) (h : jA S 90 = [0, 0]) : j_X7_isColumn x S = some (0, S) := by
  unfold j_X7_isColumn j_X7_isColumn_0
  rw [h]
  refine it (by decide) (it (by decide) ?_)
  show (j_X7_in x 0 (0 - 1) S).bind _ = _
  rw [m0_in]
  rfl
theorem p1_LF {LS : Nat} (hL : LS ≤ 4) : LF (fun _ => true) J1 LS := by
  refine ⟨fun m S h => ?_, fun m S hm hJ => ?_⟩
  · cases m with
    | zero => cases h; exact zS0
    | succ m => exact h
  have m0 : m = 0 := by omega
  subst m0
  have hS : S = S0 := hJ
  subst hS
  refine ⟨fun n w hn => p1_feed n w hn, p1_read, fun a _ => ?_, fun a _ => ?_, ?_, fun a b _ _ => ?_, fun a b _ _ => ?_, fun a _ => ?_, fun a b _ _ => ?_, fun a b _ _ => ?_, fun a b d _ _ _ => ?_, fun a b _ _ => ?_, ?_, fun a _ => ?_, fun a _ => ?_, zS0⟩
  · -- fault
    by_cases h0 : a = 0
    · subst h0; exact ⟨_, _, _, _, rfl, rfl, zS0, fun _ => rfl⟩
    · by_cases h1 : a = 1
      · subst h1; exact ⟨_, _, _, _, rfl, rfl, zS0, fun _ => rfl⟩
      · refine ⟨-102, S0, -102, kI S0 82 0 0, ?_, ?_, zS0, fun _ => rfl⟩
        · unfold j_X6_fault j_X6_fault_0
          by_cases h2 : a < 0
          · exact it h2 rfl
          · exact ie h2 (ie (by omega) rfl)
        · unfold j_X7_fault j_X7_fault_0
          exact it h0 (it h1 rfl)
  · -- manner
    by_cases h : 0 ≤ a ∧ a ≤ 2
    · refine ⟨0, kI S0 0 7 a, 0, kI (kI (kI S0 0 7 a) 82 0 0) 82 3 a, ?_, ?_, zS0, fun _ => rfl⟩
      · unfold j_X6_manner j_X6_manner_0
        exact ie (by omega) (it h.2 rfl)
      · unfold j_X7_manner j_X7_manner_0
        rw [e_in, bi_t h]
        rfl
    · refine ⟨-102, S0, -102, kI S0 82 0 0, ?_, ?_, zS0, fun _ => rfl⟩
      · unfold j_X6_manner j_X6_manner_0
        by_cases h2 : a < 0
        · exact it h2 rfl
        · exact ie h2 (ie (by omega) rfl)
      · unfold j_X7_manner j_X7_manner_0
        rw [e_in, bi_f h]
        rfl
  · -- find
    exact ⟨-1, kI S0 1 1 0, -1, kI (kI (kI S0 1 1 0) 82 0 0) 82 2 0, rfl, rfl, zS0, fun _ => rfl⟩
  · -- node
    refine o_in ?_ (fun o => ?_)
    · unfold j_X6_node j_X6_node_0
      rw [h0_sos a b rfl]
      rfl
    · unfold j_X7_node j_X7_node_0
      refine it (show 0 < 2 by decide) (it (show rg (0 - 1) by decide) ?_)
      show (j_X7_in a 0 (0 - 1) _).bind _ = _
      rw [m0_in]
      rfl
  · -- arc
    refine ⟨-101, S0, -101, kI S0 82 0 0, ?_, ?_, zS0, fun _ => rfl⟩
    · unfold j_X6_arc j_X6_arc_0
      rw [h0_has a rfl]
      rfl
    · unfold j_X7_arc j_X7_arc_0
      refine it (show 0 < 2 by decide) (it (show rg (0 - 1) by decide) ?_)
      show (j_X7_in a 0 (0 - 1) _).bind _ = _
      rw [m0_in]
      rfl
  · -- kind
    refine ⟨-101, S0, -101, kI S0 82 0 0, ?_, ?_, zS0, fun _ => rfl⟩
    · unfold j_X6_kind j_X6_kind_0
      rw [h0_has a rfl]
      rfl
    · unfold j_X7_kind j_X7_kind_0
      rw [m0_col a _ rfl]
      rfl
  · -- head
    refine o_in ?_ (fun o => ?_)
    · unfold j_X6_head j_X6_head_0
      rw [h0_sos a b rfl]
      rfl
    · unfold j_X7_head j_X7_head_0
      rw [m0_col a _ rfl]
      rfl
  · -- value
    refine o_in ?_ (fun o => ?_)
    · unfold j_X6_value j_X6_value_0
      rw [h0_val a b]
      rfl
    · unfold j_X7_value j_X7_value_0
      refine it (show 0 < 2 by decide) (it (show rg (0 - 1) by decide) ?_)
      show (j_X7_in a 0 (0 - 1) _).bind _ = _
      rw [m0_in]
      rfl
  · -- sign
    refine o_in ?_ (fun o => ?_)
    · unfold j_X6_sign j_X6_sign_0
      rw [h0_val a b]
      rfl
    · unfold j_X7_sign_ j_X7_sign__0
      refine it (show 0 < 2 by decide) (it (show rg (0 - 1) by decide) ?_)
      show (j_X7_in a 0 (0 - 1) _).bind _ = _
      rw [m0_in]
      rfl
  · -- comment
    refine o_in ?_ (fun o => ?_)
    · unfold j_X6_comment j_X6_comment_0
      rw [h0_sos a b rfl]
      rfl
    · unfold j_X7_comment j_X7_comment_0
      refine it (show 0 < 2 by decide) (it (show rg (0 - 1) by decide) ?_)
      show (j_X7_in a 0 (0 - 1) _).bind _ = _
      rw [m0_in]
      rfl
  · -- print
    exact ⟨-103, S0, -103, kI S0 82 0 0, rfl, rfl, zS0, fun _ => rfl⟩
  · -- out
    refine ⟨.inr "java/lang/ArrayIndexOutOfBoundsException", S0, ?_, zS0, fun o => ⟨0, kI (kO S0 o) 82 0 1, ?_, rfl, zS0, 1, rfl, fun _ => ⟨rfl, by decide⟩⟩⟩
    · unfold j_X6_out j_X6_out_0
      rw [h0_has a rfl]
      rfl
    · unfold j_X7_out j_X7_out_0
      refine it (show rg (0 - 1) by decide) ?_
      show (j_X7_in a 0 (0 - 1) _).bind _ = _
      rw [m0_in]
      rfl
  · -- about
    by_cases h0 : a = 0
    · subst h0; exact ⟨_, _, _, _, rfl, rfl, zS0, fun _ => rfl⟩
    by_cases h1 : a = 1
    · subst h1; exact ⟨_, _, _, _, rfl, rfl, zS0, fun _ => rfl⟩
    by_cases h2 : a = 2
    · subst h2; exact ⟨_, _, _, _, rfl, rfl, zS0, fun _ => rfl⟩
    by_cases h3 : a = 3
    · subst h3; exact ⟨_, _, _, _, rfl, rfl, zS0, fun _ => rfl⟩
    by_cases h4 : a = 4
    · subst h4; exact ⟨_, _, _, _, rfl, rfl, zS0, fun _ => rfl⟩
    by_cases h5 : a = 5
    · subst h5; exact ⟨_, _, _, _, rfl, rfl, zS0, fun _ => rfl⟩
    by_cases h6 : a = 6
    · subst h6; exact ⟨_, _, _, _, rfl, rfl, zS0, fun _ => rfl⟩
    refine ⟨-102, S0, -102, kI S0 82 0 0, ?_, ?_, zS0, fun _ => rfl⟩
    · unfold j_X6_about j_X6_about_0
      exact ie h0 (ie h1 (ie h2 (ie h3 (ie h4 (ie h5 (ie h6 rfl))))))
    · unfold j_X7_about j_X7_about_0
      exact ie h0 (ie h1 (ie h2 (ie h3 (ie h4 (ie h5 (ie h6 rfl))))))
end PONE
