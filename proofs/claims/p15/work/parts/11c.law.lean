section FLW
def f_L_law_625 (LS : Nat) (xs : Nat → Int32) (r23 : Int32 → fS → Option fS) (l4 : Int32) (s : fS) : Option fS := r23 (l4 + Int32.ofInt (4)) s
set_option maxRecDepth 100000 in
theorem g_L_law_625 (LS : Nat) (xs : Nat → Int32) (k : Nat) (r23 : Int32 → fS → Option fS) (q23 : ∀ (l4 : Int32) (d5 : Option Value) (d6 : Option Value) (s : fS), fl LS xs k (23, [some (.float 0), some (.ref 0), some (.ref 82), some (.ref 109), some (.int l4), d5, d6], [], enc s) (r23 l4 s)) (l4 : Int32) (d5 : Option Value) (d6 : Option Value) (s : fS) : fl LS xs k (625, [some (.float 0), some (.ref 0), some (.ref 82), some (.ref 109), some (.int l4), d5, d6], [], enc s) (f_L_law_625 LS xs r23 l4 s) := by
  unfold f_L_law_625
  refine fl_st rfl rfl ?_
  refine fl_st rfl rfl ?_
  exact q23 _ _ _ _
def f_L_law_597 (LS : Nat) (xs : Nat → Int32) (r23 : Int32 → fS → Option fS) (l4 : Int32) (l5 : Int32) (l6 : Int32) (s : fS) : Option fS := f_L_law_625 LS xs r23 l4 s
set_option maxRecDepth 100000 in
theorem g_L_law_597 (LS : Nat) (xs : Nat → Int32) (k : Nat) (r23 : Int32 → fS → Option fS) (q23 : ∀ (l4 : Int32) (d5 : Option Value) (d6 : Option Value) (s : fS), fl LS xs k (23, [some (.float 0), some (.ref 0), some (.ref 82), some (.ref 109), some (.int l4), d5, d6], [], enc s) (r23 l4 s)) (l4 : Int32) (l5 : Int32) (l6 : Int32)  (s : fS) : fl LS xs k (597, [some (.float 0), some (.ref 0), some (.ref 82), some (.ref 109), some (.int l4), some (.int l5), some (.int l6)], [], enc s) (f_L_law_597 LS xs r23 l4 l5 l6 s) := by
  unfold f_L_law_597
  refine fl_st rfl rfl ?_
  exact g_L_law_625 LS xs _ _ q23 _ _ _ _
def f_L_law_23 (LS : Nat) (xs : Nat → Int32) : Nat → Int32 → fS → Option fS
  | 0, _, _ => none
  | n + 1, l4, s => (bif decide (((Int32.ofNat LS) - (4 : Int32)) < l4) then fchk (zok s) (some s) else fchk (mi_in l4 LS) ((bif decide (((xs l4.toNatClampNeg) &&& (15 : Int32)).toInt = 0) then fchk (mi_in (l4 + (1 : Int32)) LS) (fchk (mi_in (l4 + (2 : Int32)) LS) (fchk (mi_in (l4 + (3 : Int32)) LS) (((f_X6_feed (xs (l4 + (1 : Int32)).toNatClampNeg) ((mi_sshl (((xs (l4 + (2 : Int32)).toNatClampNeg)).toInt64) (32 : Int32)) ||| ((((xs (l4 + (3 : Int32)).toNatClampNeg)).toInt64) &&& (4294967295 : Int64))) s).bind fun qx1 => fchk (mi_in (l4 + (1 : Int32)) LS) (fchk (mi_in (l4 + (2 : Int32)) LS) (fchk (mi_in (l4 + (3 : Int32)) LS) (((f_X7_feed (xs (l4 + (1 : Int32)).toNatClampNeg) ((mi_sshl (((xs (l4 + (2 : Int32)).toNatClampNeg)).toInt64) (32 : Int32)) ||| ((((xs (l4 + (3 : Int32)).toNatClampNeg)).toInt64) &&& (4294967295 : Int64))) qx1.2).bind fun qx2 => f_L_law_625 LS xs (fun l4' s' => f_L_law_23 LS xs n l4' s') l4 qx2.2)))))))) else (bif decide (((xs l4.toNatClampNeg) &&& (15 : Int32)).toInt = 1) then ((f_X6_read s).bind fun qx3 => ((f_X7_read qx3.2).bind fun qx4 => f_L_law_625 LS xs (fun l4' s' => f_L_law_23 LS xs n l4' s') l4 qx4.2)) else (bif decide (((xs l4.toNatClampNeg) &&& (15 : Int32)).toInt = 2) then fchk (mi_in (l4 + (1 : Int32)) LS) (((f_X6_fault (xs (l4 + (1 : Int32)).toNatClampNeg) s).bind fun qx5 => fchk (mi_in (l4 + (1 : Int32)) LS) (((f_X7_fault (xs (l4 + (1 : Int32)).toNatClampNeg) qx5.2).bind fun qx6 => f_L_law_625 LS xs (fun l4' s' => f_L_law_23 LS xs n l4' s') l4 qx6.2)))) else (bif decide (((xs l4.toNatClampNeg) &&& (15 : Int32)).toInt = 3) then fchk (mi_in (l4 + (1 : Int32)) LS) (((f_X6_manner (xs (l4 + (1 : Int32)).toNatClampNeg) s).bind fun qx7 => fchk (mi_in (l4 + (1 : Int32)) LS) (((f_X7_manner (xs (l4 + (1 : Int32)).toNatClampNeg) qx7.2).bind fun qx8 => f_L_law_625 LS xs (fun l4' s' => f_L_law_23 LS xs n l4' s') l4 qx8.2)))) else (bif decide (((xs l4.toNatClampNeg) &&& (15 : Int32)).toInt = 4) then ((f_X6_find s).bind fun qx9 => ((f_X7_find qx9.2).bind fun qx10 => f_L_law_625 LS xs (fun l4' s' => f_L_law_23 LS xs n l4' s') l4 qx10.2)) else (bif decide (((xs l4.toNatClampNeg) &&& (15 : Int32)).toInt = 5) then fchk (mi_in (l4 + (1 : Int32)) LS) (fchk (mi_in (l4 + (2 : Int32)) LS) (fchk (zok s) ((f_L_node (xs (l4 + (1 : Int32)).toNatClampNeg) (xs (l4 + (2 : Int32)).toNatClampNeg) s).bind fun qx11 => fchk (zok qx11.2) (fchk (mi_in (l4 + (1 : Int32)) LS) (fchk (mi_in (l4 + (2 : Int32)) LS) (((f_X7_node (xs (l4 + (1 : Int32)).toNatClampNeg) (xs (l4 + (2 : Int32)).toNatClampNeg) qx11.2).bind fun qx12 => f_L_law_625 LS xs (fun l4' s' => f_L_law_23 LS xs n l4' s') l4 qx12.2))))))) else (bif decide (((xs l4.toNatClampNeg) &&& (15 : Int32)).toInt = 6) then fchk (mi_in (l4 + (1 : Int32)) LS) (fchk (mi_in (l4 + (2 : Int32)) LS) (((f_X6_arc (xs (l4 + (1 : Int32)).toNatClampNeg) (xs (l4 + (2 : Int32)).toNatClampNeg) s).bind fun qx13 => fchk (mi_in (l4 + (1 : Int32)) LS) (fchk (mi_in (l4 + (2 : Int32)) LS) (((f_X7_arc (xs (l4 + (1 : Int32)).toNatClampNeg) (xs (l4 + (2 : Int32)).toNatClampNeg) qx13.2).bind fun qx14 => f_L_law_625 LS xs (fun l4' s' => f_L_law_23 LS xs n l4' s') l4 qx14.2)))))) else (bif decide (((xs l4.toNatClampNeg) &&& (15 : Int32)).toInt = 7) then fchk (mi_in (l4 + (1 : Int32)) LS) (((f_X6_kind (xs (l4 + (1 : Int32)).toNatClampNeg) s).bind fun qx15 => fchk (mi_in (l4 + (1 : Int32)) LS) (((f_X7_kind (xs (l4 + (1 : Int32)).toNatClampNeg) qx15.2).bind fun qx16 => f_L_law_625 LS xs (fun l4' s' => f_L_law_23 LS xs n l4' s') l4 qx16.2)))) else (bif decide (((xs l4.toNatClampNeg) &&& (15 : Int32)).toInt = 8) then fchk (mi_in (l4 + (1 : Int32)) LS) (fchk (mi_in (l4 + (2 : Int32)) LS) (fchk (zok s) ((f_L_head (xs (l4 + (1 : Int32)).toNatClampNeg) (xs (l4 + (2 : Int32)).toNatClampNeg) s).bind fun qx17 => fchk (zok qx17.2) (fchk (mi_in (l4 + (1 : Int32)) LS) (fchk (mi_in (l4 + (2 : Int32)) LS) (((f_X7_head (xs (l4 + (1 : Int32)).toNatClampNeg) (xs (l4 + (2 : Int32)).toNatClampNeg) qx17.2).bind fun qx18 => f_L_law_625 LS xs (fun l4' s' => f_L_law_23 LS xs n l4' s') l4 qx18.2))))))) else (bif decide (((xs l4.toNatClampNeg) &&& (15 : Int32)).toInt = 9) then fchk (mi_in (l4 + (1 : Int32)) LS) (fchk (mi_in (l4 + (2 : Int32)) LS) (fchk (zok s) ((f_L_value (xs (l4 + (1 : Int32)).toNatClampNeg) (xs (l4 + (2 : Int32)).toNatClampNeg) s).bind fun qx19 => fchk (zok qx19.2) (fchk (mi_in (l4 + (1 : Int32)) LS) (fchk (mi_in (l4 + (2 : Int32)) LS) (((f_X7_value (xs (l4 + (1 : Int32)).toNatClampNeg) (xs (l4 + (2 : Int32)).toNatClampNeg) qx19.2).bind fun qx20 => f_L_law_625 LS xs (fun l4' s' => f_L_law_23 LS xs n l4' s') l4 qx20.2))))))) else (bif decide (((xs l4.toNatClampNeg) &&& (15 : Int32)).toInt = 10) then fchk (mi_in (l4 + (1 : Int32)) LS) (fchk (mi_in (l4 + (2 : Int32)) LS) (fchk (mi_in (l4 + (3 : Int32)) LS) (fchk (zok s) ((f_L_sign (xs (l4 + (1 : Int32)).toNatClampNeg) (xs (l4 + (2 : Int32)).toNatClampNeg) (xs (l4 + (3 : Int32)).toNatClampNeg) s).bind fun qx21 => fchk (zok qx21.2) (fchk (mi_in (l4 + (1 : Int32)) LS) (fchk (mi_in (l4 + (2 : Int32)) LS) (fchk (mi_in (l4 + (3 : Int32)) LS) (((f_X7_sign_ (xs (l4 + (1 : Int32)).toNatClampNeg) (xs (l4 + (2 : Int32)).toNatClampNeg) (xs (l4 + (3 : Int32)).toNatClampNeg) qx21.2).bind fun qx22 => f_L_law_625 LS xs (fun l4' s' => f_L_law_23 LS xs n l4' s') l4 qx22.2))))))))) else (bif decide (((xs l4.toNatClampNeg) &&& (15 : Int32)).toInt = 11) then fchk (mi_in (l4 + (1 : Int32)) LS) (fchk (mi_in (l4 + (2 : Int32)) LS) (fchk (zok s) ((f_L_comment (xs (l4 + (1 : Int32)).toNatClampNeg) (xs (l4 + (2 : Int32)).toNatClampNeg) s).bind fun qx23 => fchk (zok qx23.2) (fchk (mi_in (l4 + (1 : Int32)) LS) (fchk (mi_in (l4 + (2 : Int32)) LS) (((f_X7_comment (xs (l4 + (1 : Int32)).toNatClampNeg) (xs (l4 + (2 : Int32)).toNatClampNeg) qx23.2).bind fun qx24 => f_L_law_625 LS xs (fun l4' s' => f_L_law_23 LS xs n l4' s') l4 qx24.2))))))) else (bif decide (((xs l4.toNatClampNeg) &&& (15 : Int32)).toInt = 12) then ((f_X6_print s).bind fun qx25 => ((f_X7_print qx25.2).bind fun qx26 => f_L_law_625 LS xs (fun l4' s' => f_L_law_23 LS xs n l4' s') l4 qx26.2)) else (bif decide (((xs l4.toNatClampNeg) &&& (15 : Int32)).toInt = 13) then fchk (mi_in (l4 + (1 : Int32)) LS) (fchk (zok s) ((f_L_out (xs (l4 + (1 : Int32)).toNatClampNeg) s).bind fun qx27 => fchk (zok qx27.2) (fchk (mi_in (l4 + (1 : Int32)) LS) (((f_X7_out (xs (l4 + (1 : Int32)).toNatClampNeg) qx27.2).bind fun qx28 => ((f_X7_thrown qx28.2).bind fun qx29 => (bif decide (qx29.1 = qx27.1) then (bif decide (¬ qx27.1 = 0) then f_L_law_597 LS xs (fun l4' s' => f_L_law_23 LS xs n l4' s') l4 qx27.1 qx28.1 qx29.2 else (bif decide ((lg_cmp (gO qx29.2) ((qx28.1).toInt64)) = 0) then f_L_law_597 LS xs (fun l4' s' => f_L_law_23 LS xs n l4' s') l4 qx27.1 qx28.1 qx29.2 else none)) else none))))))) else (bif decide (((xs l4.toNatClampNeg) &&& (15 : Int32)).toInt = 14) then fchk (mi_in (l4 + (1 : Int32)) LS) (((f_X6_about (xs (l4 + (1 : Int32)).toNatClampNeg) s).bind fun qx30 => fchk (mi_in (l4 + (1 : Int32)) LS) (((f_X7_about (xs (l4 + (1 : Int32)).toNatClampNeg) qx30.2).bind fun qx31 => f_L_law_625 LS xs (fun l4' s' => f_L_law_23 LS xs n l4' s') l4 qx31.2)))) else f_L_law_625 LS xs (fun l4' s' => f_L_law_23 LS xs n l4' s') l4 s)))))))))))))))))
set_option maxRecDepth 100000 in
theorem g_L_law_23 (LS : Nat) (xs : Nat → Int32) (n : Nat) : ∀ (l4 : Int32) (d5 : Option Value) (d6 : Option Value) (s : fS), fl LS xs n (23, [some (.float 0), some (.ref 0), some (.ref 82), some (.ref 109), some (.int l4), d5, d6], [], enc s) (f_L_law_23 LS xs n l4 s) := by
  induction n with
  | zero => intro l4 d5 d6 s; exact fl_none
  | succ n ih =>
    intro l4 d5 d6 s
    rw [f_L_law_23]
    refine fl_st rfl rfl ?_
    refine fl_st rfl rfl ?_
    refine fl_st rfl rfl ?_
    refine fl_st rfl rfl ?_
    refine fl_st rfl rfl ?_
    refine fl_b rfl rfl ?_ ?_
    · refine fl_st rfl rfl ?_
      exact fl_end
    · refine fl_st rfl rfl ?_
      refine fl_st rfl rfl ?_
      refine fl_scr rfl ?_
      refine fl_st rfl rfl ?_
      refine fl_st rfl rfl ?_
      refine fl_tab rfl rfl ?_
      refine fl_lk ?_ ?_
      · refine fl_st rfl rfl ?_
        refine fl_st rfl rfl ?_
        refine fl_st rfl rfl ?_
        refine fl_st rfl rfl ?_
        refine fl_st rfl rfl ?_
        refine fl_scr rfl ?_
        refine fl_st rfl rfl ?_
        refine fl_st rfl rfl ?_
        refine fl_st rfl rfl ?_
        refine fl_st rfl rfl ?_
        refine fl_scr rfl ?_
        refine fl_st rfl rfl ?_
        refine fl_st rfl rfl ?_
        refine fl_st rfl rfl ?_
        refine fl_st rfl rfl ?_
        refine fl_st rfl rfl ?_
        refine fl_st rfl rfl ?_
        refine fl_st rfl rfl ?_
        refine fl_scr rfl ?_
        refine fl_st rfl rfl ?_
        refine fl_st rfl rfl ?_
        refine fl_st rfl rfl ?_
        refine fl_st rfl rfl ?_
        refine fl_callI (As := [.ref 0, .int (xs (l4 + (1 : Int32)).toNatClampNeg), .long ((mi_sshl (((xs (l4 + (2 : Int32)).toNatClampNeg)).toInt64) (32 : Int32)) ||| ((((xs (l4 + (3 : Int32)).toNatClampNeg)).toInt64) &&& (4294967295 : Int64)))]) (rest := []) rfl rfl rfl rfl rfl (mi_rcv_of (eg_6 _)) (c_X6_feed LS xs 12 (by decide) _ _ _) (fun qx1 => ?_)
        refine fl_st rfl rfl ?_
        refine fl_st rfl rfl ?_
        refine fl_st rfl rfl ?_
        refine fl_st rfl rfl ?_
        refine fl_st rfl rfl ?_
        refine fl_st rfl rfl ?_
        refine fl_scr rfl ?_
        refine fl_st rfl rfl ?_
        refine fl_st rfl rfl ?_
        refine fl_st rfl rfl ?_
        refine fl_st rfl rfl ?_
        refine fl_scr rfl ?_
        refine fl_st rfl rfl ?_
        refine fl_st rfl rfl ?_
        refine fl_st rfl rfl ?_
        refine fl_st rfl rfl ?_
        refine fl_st rfl rfl ?_
        refine fl_st rfl rfl ?_
        refine fl_st rfl rfl ?_
        refine fl_scr rfl ?_
        refine fl_st rfl rfl ?_
        refine fl_st rfl rfl ?_
        refine fl_st rfl rfl ?_
        refine fl_st rfl rfl ?_
        refine fl_callI (As := [.ref 82, .int (xs (l4 + (1 : Int32)).toNatClampNeg), .long ((mi_sshl (((xs (l4 + (2 : Int32)).toNatClampNeg)).toInt64) (32 : Int32)) ||| ((((xs (l4 + (3 : Int32)).toNatClampNeg)).toInt64) &&& (4294967295 : Int64)))]) (rest := []) rfl rfl rfl rfl rfl (mi_rcv_of (eg_7 _)) (c_X7_feed LS xs 12 (by decide) _ _ _) (fun qx2 => ?_)
        refine fl_st rfl rfl ?_
        refine fl_st rfl rfl ?_
        exact fl_mono (g_L_law_625 LS xs _ _ ih _ _ _ _)
      · refine fl_lk ?_ ?_
        · refine fl_st rfl rfl ?_
          refine fl_callI (As := [.ref 0]) (rest := []) rfl rfl rfl rfl rfl (mi_rcv_of (eg_6 _)) (c_X6_read LS xs 12 (by decide)  _) (fun qx3 => ?_)
          refine fl_st rfl rfl ?_
          refine fl_st rfl rfl ?_
          refine fl_callI (As := [.ref 82]) (rest := []) rfl rfl rfl rfl rfl (mi_rcv_of (eg_7 _)) (c_X7_read LS xs 12 (by decide)  _) (fun qx4 => ?_)
          refine fl_st rfl rfl ?_
          refine fl_st rfl rfl ?_
          exact fl_mono (g_L_law_625 LS xs _ _ ih _ _ _ _)
        · refine fl_lk ?_ ?_
          · refine fl_st rfl rfl ?_
            refine fl_st rfl rfl ?_
            refine fl_st rfl rfl ?_
            refine fl_st rfl rfl ?_
            refine fl_st rfl rfl ?_
            refine fl_scr rfl ?_
            refine fl_callI (As := [.ref 0, .int (xs (l4 + (1 : Int32)).toNatClampNeg)]) (rest := []) rfl rfl rfl rfl rfl (mi_rcv_of (eg_6 _)) (c_X6_fault LS xs 12 (by decide) _ _) (fun qx5 => ?_)
            refine fl_st rfl rfl ?_
            refine fl_st rfl rfl ?_
            refine fl_st rfl rfl ?_
            refine fl_st rfl rfl ?_
            refine fl_st rfl rfl ?_
            refine fl_st rfl rfl ?_
            refine fl_scr rfl ?_
            refine fl_callI (As := [.ref 82, .int (xs (l4 + (1 : Int32)).toNatClampNeg)]) (rest := []) rfl rfl rfl rfl rfl (mi_rcv_of (eg_7 _)) (c_X7_fault LS xs 12 (by decide) _ _) (fun qx6 => ?_)
            refine fl_st rfl rfl ?_
            refine fl_st rfl rfl ?_
            exact fl_mono (g_L_law_625 LS xs _ _ ih _ _ _ _)
          · refine fl_lk ?_ ?_
            · refine fl_st rfl rfl ?_
              refine fl_st rfl rfl ?_
              refine fl_st rfl rfl ?_
              refine fl_st rfl rfl ?_
              refine fl_st rfl rfl ?_
              refine fl_scr rfl ?_
              refine fl_callI (As := [.ref 0, .int (xs (l4 + (1 : Int32)).toNatClampNeg)]) (rest := []) rfl rfl rfl rfl rfl (mi_rcv_of (eg_6 _)) (c_X6_manner LS xs 12 (by decide) _ _) (fun qx7 => ?_)
              refine fl_st rfl rfl ?_
              refine fl_st rfl rfl ?_
              refine fl_st rfl rfl ?_
              refine fl_st rfl rfl ?_
              refine fl_st rfl rfl ?_
              refine fl_st rfl rfl ?_
              refine fl_scr rfl ?_
              refine fl_callI (As := [.ref 82, .int (xs (l4 + (1 : Int32)).toNatClampNeg)]) (rest := []) rfl rfl rfl rfl rfl (mi_rcv_of (eg_7 _)) (c_X7_manner LS xs 12 (by decide) _ _) (fun qx8 => ?_)
              refine fl_st rfl rfl ?_
              refine fl_st rfl rfl ?_
              exact fl_mono (g_L_law_625 LS xs _ _ ih _ _ _ _)
            · refine fl_lk ?_ ?_
              · refine fl_st rfl rfl ?_
                refine fl_callI (As := [.ref 0]) (rest := []) rfl rfl rfl rfl rfl (mi_rcv_of (eg_6 _)) (c_X6_find LS xs 12 (by decide)  _) (fun qx9 => ?_)
                refine fl_st rfl rfl ?_
                refine fl_st rfl rfl ?_
                refine fl_callI (As := [.ref 82]) (rest := []) rfl rfl rfl rfl rfl (mi_rcv_of (eg_7 _)) (c_X7_find LS xs 12 (by decide)  _) (fun qx10 => ?_)
                refine fl_st rfl rfl ?_
                refine fl_st rfl rfl ?_
                exact fl_mono (g_L_law_625 LS xs _ _ ih _ _ _ _)
              · refine fl_lk ?_ ?_
                · refine fl_st rfl rfl ?_
                  refine fl_st rfl rfl ?_
                  refine fl_st rfl rfl ?_
                  refine fl_st rfl rfl ?_
                  refine fl_st rfl rfl ?_
                  refine fl_scr rfl ?_
                  refine fl_st rfl rfl ?_
                  refine fl_st rfl rfl ?_
                  refine fl_st rfl rfl ?_
                  refine fl_st rfl rfl ?_
                  refine fl_scr rfl ?_
                  refine fl_st rfl rfl ?_
                  refine fl_wcall (As := [.ref 0, .int (xs (l4 + (1 : Int32)).toNatClampNeg), .int (xs (l4 + (2 : Int32)).toNatClampNeg), .ref 109]) (rest := []) rfl wok_L_node okV_L_node rfl rfl rfl (c_L_node LS xs 12 (by decide) _ _ _) (fun qx11 => ?_)
                  refine fl_std rfl rfl rfl rfl rfl ?_
                  refine fl_st rfl rfl ?_
                  refine fl_st rfl rfl ?_
                  refine fl_st rfl rfl ?_
                  refine fl_st rfl rfl ?_
                  refine fl_st rfl rfl ?_
                  refine fl_scr rfl ?_
                  refine fl_st rfl rfl ?_
                  refine fl_st rfl rfl ?_
                  refine fl_st rfl rfl ?_
                  refine fl_st rfl rfl ?_
                  refine fl_scr rfl ?_
                  refine fl_callI (As := [.ref 82, .int (xs (l4 + (1 : Int32)).toNatClampNeg), .int (xs (l4 + (2 : Int32)).toNatClampNeg)]) (rest := []) rfl rfl rfl rfl rfl (mi_rcv_of (eg_7 _)) (c_X7_node LS xs 12 (by decide) _ _ _) (fun qx12 => ?_)
                  refine fl_std rfl rfl rfl rfl rfl ?_
                  refine fl_st rfl rfl ?_
                  exact g_L_law_625 LS xs _ _ ih _ _ _ _
                · refine fl_lk ?_ ?_
                  · refine fl_st rfl rfl ?_
                    refine fl_st rfl rfl ?_
                    refine fl_st rfl rfl ?_
                    refine fl_st rfl rfl ?_
                    refine fl_st rfl rfl ?_
                    refine fl_scr rfl ?_
                    refine fl_st rfl rfl ?_
                    refine fl_st rfl rfl ?_
                    refine fl_st rfl rfl ?_
                    refine fl_st rfl rfl ?_
                    refine fl_scr rfl ?_
                    refine fl_callI (As := [.ref 0, .int (xs (l4 + (1 : Int32)).toNatClampNeg), .int (xs (l4 + (2 : Int32)).toNatClampNeg)]) (rest := []) rfl rfl rfl rfl rfl (mi_rcv_of (eg_6 _)) (c_X6_arc LS xs 12 (by decide) _ _ _) (fun qx13 => ?_)
                    refine fl_st rfl rfl ?_
                    refine fl_st rfl rfl ?_
                    refine fl_st rfl rfl ?_
                    refine fl_st rfl rfl ?_
                    refine fl_st rfl rfl ?_
                    refine fl_st rfl rfl ?_
                    refine fl_scr rfl ?_
                    refine fl_st rfl rfl ?_
                    refine fl_st rfl rfl ?_
                    refine fl_st rfl rfl ?_
                    refine fl_st rfl rfl ?_
                    refine fl_scr rfl ?_
                    refine fl_callI (As := [.ref 82, .int (xs (l4 + (1 : Int32)).toNatClampNeg), .int (xs (l4 + (2 : Int32)).toNatClampNeg)]) (rest := []) rfl rfl rfl rfl rfl (mi_rcv_of (eg_7 _)) (c_X7_arc LS xs 12 (by decide) _ _ _) (fun qx14 => ?_)
                    refine fl_st rfl rfl ?_
                    refine fl_st rfl rfl ?_
                    exact fl_mono (g_L_law_625 LS xs _ _ ih _ _ _ _)
                  · refine fl_lk ?_ ?_
                    · refine fl_st rfl rfl ?_
                      refine fl_st rfl rfl ?_
                      refine fl_st rfl rfl ?_
                      refine fl_st rfl rfl ?_
                      refine fl_st rfl rfl ?_
                      refine fl_scr rfl ?_
                      refine fl_callI (As := [.ref 0, .int (xs (l4 + (1 : Int32)).toNatClampNeg)]) (rest := []) rfl rfl rfl rfl rfl (mi_rcv_of (eg_6 _)) (c_X6_kind LS xs 12 (by decide) _ _) (fun qx15 => ?_)
                      refine fl_st rfl rfl ?_
                      refine fl_st rfl rfl ?_
                      refine fl_st rfl rfl ?_
                      refine fl_st rfl rfl ?_
                      refine fl_st rfl rfl ?_
                      refine fl_st rfl rfl ?_
                      refine fl_scr rfl ?_
                      refine fl_callI (As := [.ref 82, .int (xs (l4 + (1 : Int32)).toNatClampNeg)]) (rest := []) rfl rfl rfl rfl rfl (mi_rcv_of (eg_7 _)) (c_X7_kind LS xs 12 (by decide) _ _) (fun qx16 => ?_)
                      refine fl_st rfl rfl ?_
                      refine fl_st rfl rfl ?_
                      exact fl_mono (g_L_law_625 LS xs _ _ ih _ _ _ _)
                    · refine fl_lk ?_ ?_
                      · refine fl_st rfl rfl ?_
                        refine fl_st rfl rfl ?_
                        refine fl_st rfl rfl ?_
                        refine fl_st rfl rfl ?_
                        refine fl_st rfl rfl ?_
                        refine fl_scr rfl ?_
                        refine fl_st rfl rfl ?_
                        refine fl_st rfl rfl ?_
                        refine fl_st rfl rfl ?_
                        refine fl_st rfl rfl ?_
                        refine fl_scr rfl ?_
                        refine fl_st rfl rfl ?_
                        refine fl_wcall (As := [.ref 0, .int (xs (l4 + (1 : Int32)).toNatClampNeg), .int (xs (l4 + (2 : Int32)).toNatClampNeg), .ref 109]) (rest := []) rfl wok_L_head okV_L_head rfl rfl rfl (c_L_head LS xs 12 (by decide) _ _ _) (fun qx17 => ?_)
                        refine fl_std rfl rfl rfl rfl rfl ?_
                        refine fl_st rfl rfl ?_
                        refine fl_st rfl rfl ?_
                        refine fl_st rfl rfl ?_
                        refine fl_st rfl rfl ?_
                        refine fl_st rfl rfl ?_
                        refine fl_scr rfl ?_
                        refine fl_st rfl rfl ?_
                        refine fl_st rfl rfl ?_
                        refine fl_st rfl rfl ?_
                        refine fl_st rfl rfl ?_
                        refine fl_scr rfl ?_
                        refine fl_callI (As := [.ref 82, .int (xs (l4 + (1 : Int32)).toNatClampNeg), .int (xs (l4 + (2 : Int32)).toNatClampNeg)]) (rest := []) rfl rfl rfl rfl rfl (mi_rcv_of (eg_7 _)) (c_X7_head LS xs 12 (by decide) _ _ _) (fun qx18 => ?_)
                        refine fl_std rfl rfl rfl rfl rfl ?_
                        refine fl_st rfl rfl ?_
                        exact g_L_law_625 LS xs _ _ ih _ _ _ _
                      · refine fl_lk ?_ ?_
                        · refine fl_st rfl rfl ?_
                          refine fl_st rfl rfl ?_
                          refine fl_st rfl rfl ?_
                          refine fl_st rfl rfl ?_
                          refine fl_st rfl rfl ?_
                          refine fl_scr rfl ?_
                          refine fl_st rfl rfl ?_
                          refine fl_st rfl rfl ?_
                          refine fl_st rfl rfl ?_
                          refine fl_st rfl rfl ?_
                          refine fl_scr rfl ?_
                          refine fl_st rfl rfl ?_
                          refine fl_wcall (As := [.ref 0, .int (xs (l4 + (1 : Int32)).toNatClampNeg), .int (xs (l4 + (2 : Int32)).toNatClampNeg), .ref 109]) (rest := []) rfl wok_L_value okV_L_value rfl rfl rfl (c_L_value LS xs 12 (by decide) _ _ _) (fun qx19 => ?_)
                          refine fl_std rfl rfl rfl rfl rfl ?_
                          refine fl_st rfl rfl ?_
                          refine fl_st rfl rfl ?_
                          refine fl_st rfl rfl ?_
                          refine fl_st rfl rfl ?_
                          refine fl_st rfl rfl ?_
                          refine fl_scr rfl ?_
                          refine fl_st rfl rfl ?_
                          refine fl_st rfl rfl ?_
                          refine fl_st rfl rfl ?_
                          refine fl_st rfl rfl ?_
                          refine fl_scr rfl ?_
                          refine fl_callI (As := [.ref 82, .int (xs (l4 + (1 : Int32)).toNatClampNeg), .int (xs (l4 + (2 : Int32)).toNatClampNeg)]) (rest := []) rfl rfl rfl rfl rfl (mi_rcv_of (eg_7 _)) (c_X7_value LS xs 12 (by decide) _ _ _) (fun qx20 => ?_)
                          refine fl_std rfl rfl rfl rfl rfl ?_
                          refine fl_st rfl rfl ?_
                          exact g_L_law_625 LS xs _ _ ih _ _ _ _
                        · refine fl_lk ?_ ?_
                          · refine fl_st rfl rfl ?_
                            refine fl_st rfl rfl ?_
                            refine fl_st rfl rfl ?_
                            refine fl_st rfl rfl ?_
                            refine fl_st rfl rfl ?_
                            refine fl_scr rfl ?_
                            refine fl_st rfl rfl ?_
                            refine fl_st rfl rfl ?_
                            refine fl_st rfl rfl ?_
                            refine fl_st rfl rfl ?_
                            refine fl_scr rfl ?_
                            refine fl_st rfl rfl ?_
                            refine fl_st rfl rfl ?_
                            refine fl_st rfl rfl ?_
                            refine fl_st rfl rfl ?_
                            refine fl_scr rfl ?_
                            refine fl_st rfl rfl ?_
                            refine fl_wcall (As := [.ref 0, .int (xs (l4 + (1 : Int32)).toNatClampNeg), .int (xs (l4 + (2 : Int32)).toNatClampNeg), .int (xs (l4 + (3 : Int32)).toNatClampNeg), .ref 109]) (rest := []) rfl wok_L_sign okV_L_sign rfl rfl rfl (c_L_sign LS xs 12 (by decide) _ _ _ _) (fun qx21 => ?_)
                            refine fl_std rfl rfl rfl rfl rfl ?_
                            refine fl_st rfl rfl ?_
                            refine fl_st rfl rfl ?_
                            refine fl_st rfl rfl ?_
                            refine fl_st rfl rfl ?_
                            refine fl_st rfl rfl ?_
                            refine fl_scr rfl ?_
                            refine fl_st rfl rfl ?_
                            refine fl_st rfl rfl ?_
                            refine fl_st rfl rfl ?_
                            refine fl_st rfl rfl ?_
                            refine fl_scr rfl ?_
                            refine fl_st rfl rfl ?_
                            refine fl_st rfl rfl ?_
                            refine fl_st rfl rfl ?_
                            refine fl_st rfl rfl ?_
                            refine fl_scr rfl ?_
                            refine fl_callI (As := [.ref 82, .int (xs (l4 + (1 : Int32)).toNatClampNeg), .int (xs (l4 + (2 : Int32)).toNatClampNeg), .int (xs (l4 + (3 : Int32)).toNatClampNeg)]) (rest := []) rfl rfl rfl rfl rfl (mi_rcv_of (eg_7 _)) (c_X7_sign_ LS xs 12 (by decide) _ _ _ _) (fun qx22 => ?_)
                            refine fl_std rfl rfl rfl rfl rfl ?_
                            refine fl_st rfl rfl ?_
                            exact g_L_law_625 LS xs _ _ ih _ _ _ _
                          · refine fl_lk ?_ ?_
                            · refine fl_st rfl rfl ?_
                              refine fl_st rfl rfl ?_
                              refine fl_st rfl rfl ?_
                              refine fl_st rfl rfl ?_
                              refine fl_st rfl rfl ?_
                              refine fl_scr rfl ?_
                              refine fl_st rfl rfl ?_
                              refine fl_st rfl rfl ?_
                              refine fl_st rfl rfl ?_
                              refine fl_st rfl rfl ?_
                              refine fl_scr rfl ?_
                              refine fl_st rfl rfl ?_
                              refine fl_wcall (As := [.ref 0, .int (xs (l4 + (1 : Int32)).toNatClampNeg), .int (xs (l4 + (2 : Int32)).toNatClampNeg), .ref 109]) (rest := []) rfl wok_L_comment okV_L_comment rfl rfl rfl (c_L_comment LS xs 12 (by decide) _ _ _) (fun qx23 => ?_)
                              refine fl_std rfl rfl rfl rfl rfl ?_
                              refine fl_st rfl rfl ?_
                              refine fl_st rfl rfl ?_
                              refine fl_st rfl rfl ?_
                              refine fl_st rfl rfl ?_
                              refine fl_st rfl rfl ?_
                              refine fl_scr rfl ?_
                              refine fl_st rfl rfl ?_
                              refine fl_st rfl rfl ?_
                              refine fl_st rfl rfl ?_
                              refine fl_st rfl rfl ?_
                              refine fl_scr rfl ?_
                              refine fl_callI (As := [.ref 82, .int (xs (l4 + (1 : Int32)).toNatClampNeg), .int (xs (l4 + (2 : Int32)).toNatClampNeg)]) (rest := []) rfl rfl rfl rfl rfl (mi_rcv_of (eg_7 _)) (c_X7_comment LS xs 12 (by decide) _ _ _) (fun qx24 => ?_)
                              refine fl_std rfl rfl rfl rfl rfl ?_
                              refine fl_st rfl rfl ?_
                              exact g_L_law_625 LS xs _ _ ih _ _ _ _
                            · refine fl_lk ?_ ?_
                              · refine fl_st rfl rfl ?_
                                refine fl_callI (As := [.ref 0]) (rest := []) rfl rfl rfl rfl rfl (mi_rcv_of (eg_6 _)) (c_X6_print LS xs 12 (by decide)  _) (fun qx25 => ?_)
                                refine fl_st rfl rfl ?_
                                refine fl_st rfl rfl ?_
                                refine fl_callI (As := [.ref 82]) (rest := []) rfl rfl rfl rfl rfl (mi_rcv_of (eg_7 _)) (c_X7_print LS xs 12 (by decide)  _) (fun qx26 => ?_)
                                refine fl_st rfl rfl ?_
                                refine fl_st rfl rfl ?_
                                exact fl_mono (g_L_law_625 LS xs _ _ ih _ _ _ _)
                              · refine fl_lk ?_ ?_
                                · refine fl_st rfl rfl ?_
                                  refine fl_st rfl rfl ?_
                                  refine fl_st rfl rfl ?_
                                  refine fl_st rfl rfl ?_
                                  refine fl_st rfl rfl ?_
                                  refine fl_scr rfl ?_
                                  refine fl_st rfl rfl ?_
                                  refine fl_wcall (As := [.ref 0, .int (xs (l4 + (1 : Int32)).toNatClampNeg), .ref 109]) (rest := []) rfl wok_L_out okV_L_out rfl rfl rfl (c_L_out LS xs 12 (by decide) _ _) (fun qx27 => ?_)
                                  refine fl_std rfl rfl rfl rfl rfl ?_
                                  refine fl_st rfl rfl ?_
                                  refine fl_st rfl rfl ?_
                                  refine fl_st rfl rfl ?_
                                  refine fl_st rfl rfl ?_
                                  refine fl_st rfl rfl ?_
                                  refine fl_scr rfl ?_
                                  refine fl_callI (As := [.ref 82, .int (xs (l4 + (1 : Int32)).toNatClampNeg)]) (rest := []) rfl rfl rfl rfl rfl (mi_rcv_of (eg_7 _)) (c_X7_out LS xs 12 (by decide) _ _) (fun qx28 => ?_)
                                  refine fl_std rfl rfl rfl rfl rfl ?_
                                  refine fl_st rfl rfl ?_
                                  refine fl_callI (As := [.ref 82]) (rest := []) rfl rfl rfl rfl rfl (mi_rcv_of (eg_7 _)) (c_X7_thrown LS xs 12 (by decide)  _) (fun qx29 => ?_)
                                  refine fl_st rfl rfl ?_
                                  refine fl_b rfl rfl ?_ ?_
                                  · refine fl_st rfl rfl ?_
                                    refine fl_b rfl rfl ?_ ?_
                                    · exact g_L_law_597 LS xs _ _ ih _ _ _ _
                                    · refine fl_st rfl rfl ?_
                                      refine fl_st rfl rfl ?_
                                      refine fl_lald rfl ?_
                                      refine fl_st rfl rfl ?_
                                      refine fl_st rfl rfl ?_
                                      refine fl_st rfl rfl ?_
                                      refine fl_b rfl rfl ?_ ?_
                                      · exact g_L_law_597 LS xs _ _ ih _ _ _ _
                                      · refine fl_st rfl rfl ?_
                                        exact fl_none
                                  · refine fl_st rfl rfl ?_
                                    exact fl_none
                                · refine fl_lk ?_ ?_
                                  · refine fl_st rfl rfl ?_
                                    refine fl_st rfl rfl ?_
                                    refine fl_st rfl rfl ?_
                                    refine fl_st rfl rfl ?_
                                    refine fl_st rfl rfl ?_
                                    refine fl_scr rfl ?_
                                    refine fl_callI (As := [.ref 0, .int (xs (l4 + (1 : Int32)).toNatClampNeg)]) (rest := []) rfl rfl rfl rfl rfl (mi_rcv_of (eg_6 _)) (c_X6_about LS xs 12 (by decide) _ _) (fun qx30 => ?_)
                                    refine fl_st rfl rfl ?_
                                    refine fl_st rfl rfl ?_
                                    refine fl_st rfl rfl ?_
                                    refine fl_st rfl rfl ?_
                                    refine fl_st rfl rfl ?_
                                    refine fl_st rfl rfl ?_
                                    refine fl_scr rfl ?_
                                    refine fl_callI (As := [.ref 82, .int (xs (l4 + (1 : Int32)).toNatClampNeg)]) (rest := []) rfl rfl rfl rfl rfl (mi_rcv_of (eg_7 _)) (c_X7_about LS xs 12 (by decide) _ _) (fun qx31 => ?_)
                                    refine fl_st rfl rfl ?_
                                    refine fl_st rfl rfl ?_
                                    exact fl_mono (g_L_law_625 LS xs _ _ ih _ _ _ _)
                                  · show fl _ _ _ (625, _, _, _) _
                                    exact fl_mono (g_L_law_625 LS xs _ _ ih _ _ _ _)
end FLW
