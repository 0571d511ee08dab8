section FM12
def f_X7_about_0   (l1 : Int32) (s : fS) : Option (Int32 × fS) := (bif decide (l1.toInt = 0) then some ((gI s 82 2), (sI s 82 0 (0 : Int32))) else (bif decide (l1.toInt = 1) then fchk (mi_in (0 : Int32) (gA s 84).length) (some (((gA s 84).getD (0 : Int32).toNatClampNeg 0), (sI s 82 0 (0 : Int32)))) else (bif decide (l1.toInt = 2) then fchk (mi_in (0 : Int32) (gA s 86).length) (some (((gA s 86).getD (0 : Int32).toNatClampNeg 0), (sI s 82 0 (0 : Int32)))) else (bif decide (l1.toInt = 3) then fchk (mi_in (0 : Int32) (gA s 90).length) (some (((gA s 90).getD (0 : Int32).toNatClampNeg 0), (sI s 82 0 (0 : Int32)))) else (bif decide (l1.toInt = 4) then fchk (mi_in (0 : Int32) (gA s 96).length) (some (((gA s 96).getD (0 : Int32).toNatClampNeg 0), (sI s 82 0 (0 : Int32)))) else (bif decide (l1.toInt = 5) then fchk (mi_in (0 : Int32) (gA s 97).length) (some (((gA s 97).getD (0 : Int32).toNatClampNeg 0), (sI s 82 0 (0 : Int32)))) else (bif decide (l1.toInt = 6) then some ((gI s 82 26), (sI s 82 0 (0 : Int32))) else some ((-102 : Int32), (sI s 82 0 (0 : Int32))))))))))
theorem g_X7_about_0 (LS : Nat) (xs : Nat → Int32) (d : Nat) (hd : 0 ≤ d)     (l1 : Int32)  (s : fS) : fo cvI t_X7_about LS xs (mi_call mi_ms false LS xs d) (0, [some (.ref 82), some (.int l1)], [], enc s) (f_X7_about_0 l1 s) := by
  unfold f_X7_about_0
  refine fo_st rfl rfl ?_
  refine fo_st rfl rfl ?_
  refine fo_put rfl (eg_7 _) rfl rfl (es_7_0 _ _) ?_
  refine fo_st rfl rfl ?_
  refine fo_tab rfl rfl ?_
  refine fo_lk ?_ ?_
  · refine fo_st rfl rfl ?_
    refine fo_get rfl (eg_7 _) rfl ?_
    exact fo_ret rfl rfl rfl
  · refine fo_lk ?_ ?_
    · refine fo_st rfl rfl ?_
      refine fo_get rfl (eg_7 _) rfl ?_
      refine fo_st rfl rfl ?_
      refine fo_iald rfl (eg_ar _ rfl) ?_
      exact fo_ret rfl rfl rfl
    · refine fo_lk ?_ ?_
      · refine fo_st rfl rfl ?_
        refine fo_get rfl (eg_7 _) rfl ?_
        refine fo_st rfl rfl ?_
        refine fo_iald rfl (eg_ar _ rfl) ?_
        exact fo_ret rfl rfl rfl
      · refine fo_lk ?_ ?_
        · refine fo_st rfl rfl ?_
          refine fo_get rfl (eg_7 _) rfl ?_
          refine fo_st rfl rfl ?_
          refine fo_iald rfl (eg_ar _ rfl) ?_
          exact fo_ret rfl rfl rfl
        · refine fo_lk ?_ ?_
          · refine fo_st rfl rfl ?_
            refine fo_get rfl (eg_7 _) rfl ?_
            refine fo_st rfl rfl ?_
            refine fo_iald rfl (eg_ar _ rfl) ?_
            exact fo_ret rfl rfl rfl
          · refine fo_lk ?_ ?_
            · refine fo_st rfl rfl ?_
              refine fo_get rfl (eg_7 _) rfl ?_
              refine fo_st rfl rfl ?_
              refine fo_iald rfl (eg_ar _ rfl) ?_
              exact fo_ret rfl rfl rfl
            · refine fo_lk ?_ ?_
              · refine fo_st rfl rfl ?_
                refine fo_get rfl (eg_7 _) rfl ?_
                exact fo_ret rfl rfl rfl
              · show fo _ _ _ _ _ (93, _, _, _) _
                refine fo_st rfl rfl ?_
                exact fo_ret rfl rfl rfl
def f_X7_about (l1 : Int32) (s : fS) : Option (Int32 × fS) := f_X7_about_0 l1 s
theorem c_X7_about (LS : Nat) (xs : Nat → Int32) (d : Nat) (hd : 1 ≤ d) (l1 : Int32)  (s : fS) : fm mi_ms cvI LS xs d 147 [.ref 82, .int l1] (enc s) (f_X7_about l1 s) := by
  obtain ⟨e, rfl⟩ : ∃ e, d = e + 1 := ⟨d - 1, by omega⟩
  exact fm_of (M := m_X7_about) rfl rfl (fun _ => ⟨_, rfl⟩) (g_X7_about_0 LS xs e (by omega) l1 s)
end FM12
