section FW
def f_L_node_0   (l1 : Int32) (l2 : Int32) (s : fS) : Option (Int32 × fS) := (fbh [("java/lang/ArrayIndexOutOfBoundsException", 1)] (f_X6_node l1 l2 s) fun qx1 => some ((0 : Int32), (sO qx1.2 ((qx1.1).toInt64))))
theorem g_L_node_0 (LS : Nat) (xs : Nat → Int32) (d : Nat) (hd : 4 ≤ d)     (l1 : Int32) (l2 : Int32)  (s : fS) : fo cvI t_L_node LS xs (mi_call mi_ms false LS xs d) (0, [some (.ref 0), some (.int l1), some (.int l2), some (.ref 109), none], [], enc s) (f_L_node_0 l1 l2 s) := by
  unfold f_L_node_0
  refine fo_st rfl rfl ?_
  refine fo_st rfl rfl ?_
  refine fo_st rfl rfl ?_
  refine fo_st rfl rfl ?_
  refine fo_st rfl rfl ?_
  refine fo_callH (As := [.ref 0, .int l1, .int l2]) (rest := [.int (0 : Int32), .ref 109]) rfl rfl rfl rfl (mi_rcv_of (eg_6 _)) rfl (c_X6_node LS xs d (by omega) _ _ _ (p_X6_node _ _ _)) (fun qx1 => ?_)
  refine fo_st rfl rfl ?_
  refine fo_last rfl ?_
  refine fo_st rfl rfl ?_
  refine fo_st rfl rfl ?_
  exact fo_ret rfl rfl rfl
def f_L_node (l1 : Int32) (l2 : Int32) (s : fS) : Option (Int32 × fS) := f_L_node_0 l1 l2 s
theorem c_L_node (LS : Nat) (xs : Nat → Int32) (d : Nat) (hd : 5 ≤ d) (l1 : Int32) (l2 : Int32)  (s : fS) : fm mi_ms cvI LS xs d 148 [.ref 0, .int l1, .int l2, .ref 109] (enc s) (f_L_node l1 l2 s) := by
  obtain ⟨e, rfl⟩ : ∃ e, d = e + 1 := ⟨d - 1, by omega⟩
  exact fm_of (M := m_L_node) rfl rfl (fun _ => ⟨_, rfl⟩) (g_L_node_0 LS xs e (by omega) l1 l2 s)
def f_L_head_0   (l1 : Int32) (l2 : Int32) (s : fS) : Option (Int32 × fS) := (fbh [("java/lang/ArrayIndexOutOfBoundsException", 1)] (f_X6_head l1 l2 s) fun qx1 => some ((0 : Int32), (sO qx1.2 ((qx1.1).toInt64))))
theorem g_L_head_0 (LS : Nat) (xs : Nat → Int32) (d : Nat) (hd : 4 ≤ d)     (l1 : Int32) (l2 : Int32)  (s : fS) : fo cvI t_L_head LS xs (mi_call mi_ms false LS xs d) (0, [some (.ref 0), some (.int l1), some (.int l2), some (.ref 109), none], [], enc s) (f_L_head_0 l1 l2 s) := by
  unfold f_L_head_0
  refine fo_st rfl rfl ?_
  refine fo_st rfl rfl ?_
  refine fo_st rfl rfl ?_
  refine fo_st rfl rfl ?_
  refine fo_st rfl rfl ?_
  refine fo_callH (As := [.ref 0, .int l1, .int l2]) (rest := [.int (0 : Int32), .ref 109]) rfl rfl rfl rfl (mi_rcv_of (eg_6 _)) rfl (c_X6_head LS xs d (by omega) _ _ _ (p_X6_head _ _ _)) (fun qx1 => ?_)
  refine fo_st rfl rfl ?_
  refine fo_last rfl ?_
  refine fo_st rfl rfl ?_
  refine fo_st rfl rfl ?_
  exact fo_ret rfl rfl rfl
def f_L_head (l1 : Int32) (l2 : Int32) (s : fS) : Option (Int32 × fS) := f_L_head_0 l1 l2 s
theorem c_L_head (LS : Nat) (xs : Nat → Int32) (d : Nat) (hd : 5 ≤ d) (l1 : Int32) (l2 : Int32)  (s : fS) : fm mi_ms cvI LS xs d 149 [.ref 0, .int l1, .int l2, .ref 109] (enc s) (f_L_head l1 l2 s) := by
  obtain ⟨e, rfl⟩ : ∃ e, d = e + 1 := ⟨d - 1, by omega⟩
  exact fm_of (M := m_L_head) rfl rfl (fun _ => ⟨_, rfl⟩) (g_L_head_0 LS xs e (by omega) l1 l2 s)
def f_L_value_0   (l1 : Int32) (l2 : Int32) (s : fS) : Option (Int32 × fS) := (fbh [("java/lang/NullPointerException", 1), ("java/lang/ClassCastException", 2)] (f_X6_value l1 l2 s) fun qx1 => some ((0 : Int32), (sO qx1.2 ((qx1.1).toInt64))))
theorem g_L_value_0 (LS : Nat) (xs : Nat → Int32) (d : Nat) (hd : 3 ≤ d)     (l1 : Int32) (l2 : Int32)  (s : fS) : fo cvI t_L_value LS xs (mi_call mi_ms false LS xs d) (0, [some (.ref 0), some (.int l1), some (.int l2), some (.ref 109), none], [], enc s) (f_L_value_0 l1 l2 s) := by
  unfold f_L_value_0
  refine fo_st rfl rfl ?_
  refine fo_st rfl rfl ?_
  refine fo_st rfl rfl ?_
  refine fo_st rfl rfl ?_
  refine fo_st rfl rfl ?_
  refine fo_callH (As := [.ref 0, .int l1, .int l2]) (rest := [.int (0 : Int32), .ref 109]) rfl rfl rfl rfl (mi_rcv_of (eg_6 _)) rfl (c_X6_value LS xs d (by omega) _ _ _ (p_X6_value _ _ _)) (fun qx1 => ?_)
  refine fo_st rfl rfl ?_
  refine fo_last rfl ?_
  refine fo_st rfl rfl ?_
  refine fo_st rfl rfl ?_
  exact fo_ret rfl rfl rfl
def f_L_value (l1 : Int32) (l2 : Int32) (s : fS) : Option (Int32 × fS) := f_L_value_0 l1 l2 s
theorem c_L_value (LS : Nat) (xs : Nat → Int32) (d : Nat) (hd : 4 ≤ d) (l1 : Int32) (l2 : Int32)  (s : fS) : fm mi_ms cvI LS xs d 150 [.ref 0, .int l1, .int l2, .ref 109] (enc s) (f_L_value l1 l2 s) := by
  obtain ⟨e, rfl⟩ : ∃ e, d = e + 1 := ⟨d - 1, by omega⟩
  exact fm_of (M := m_L_value) rfl rfl (fun _ => ⟨_, rfl⟩) (g_L_value_0 LS xs e (by omega) l1 l2 s)
def f_L_sign_0   (l1 : Int32) (l2 : Int32) (l3 : Int32) (s : fS) : Option (Int32 × fS) := (fbh [("java/lang/NullPointerException", 1), ("java/lang/ClassCastException", 2), ("java/lang/ArrayIndexOutOfBoundsException", 3)] (f_X6_sign l1 l2 l3 s) fun qx1 => some ((0 : Int32), (sO qx1.2 ((qx1.1).toInt64))))
theorem g_L_sign_0 (LS : Nat) (xs : Nat → Int32) (d : Nat) (hd : 4 ≤ d)     (l1 : Int32) (l2 : Int32) (l3 : Int32)  (s : fS) : fo cvI t_L_sign LS xs (mi_call mi_ms false LS xs d) (0, [some (.ref 0), some (.int l1), some (.int l2), some (.int l3), some (.ref 109), none], [], enc s) (f_L_sign_0 l1 l2 l3 s) := by
  unfold f_L_sign_0
  refine fo_st rfl rfl ?_
  refine fo_st rfl rfl ?_
  refine fo_st rfl rfl ?_
  refine fo_st rfl rfl ?_
  refine fo_st rfl rfl ?_
  refine fo_st rfl rfl ?_
  refine fo_callH (As := [.ref 0, .int l1, .int l2, .int l3]) (rest := [.int (0 : Int32), .ref 109]) rfl rfl rfl rfl (mi_rcv_of (eg_6 _)) rfl (c_X6_sign LS xs d (by omega) _ _ _ _ (p_X6_sign _ _ _ _)) (fun qx1 => ?_)
  refine fo_st rfl rfl ?_
  refine fo_last rfl ?_
  refine fo_st rfl rfl ?_
  refine fo_st rfl rfl ?_
  exact fo_ret rfl rfl rfl
def f_L_sign (l1 : Int32) (l2 : Int32) (l3 : Int32) (s : fS) : Option (Int32 × fS) := f_L_sign_0 l1 l2 l3 s
theorem c_L_sign (LS : Nat) (xs : Nat → Int32) (d : Nat) (hd : 5 ≤ d) (l1 : Int32) (l2 : Int32) (l3 : Int32)  (s : fS) : fm mi_ms cvI LS xs d 151 [.ref 0, .int l1, .int l2, .int l3, .ref 109] (enc s) (f_L_sign l1 l2 l3 s) := by
  obtain ⟨e, rfl⟩ : ∃ e, d = e + 1 := ⟨d - 1, by omega⟩
  exact fm_of (M := m_L_sign) rfl rfl (fun _ => ⟨_, rfl⟩) (g_L_sign_0 LS xs e (by omega) l1 l2 l3 s)
def f_L_comment_0   (l1 : Int32) (l2 : Int32) (s : fS) : Option (Int32 × fS) := (fbh [("java/lang/ArrayIndexOutOfBoundsException", 1)] (f_X6_comment l1 l2 s) fun qx1 => some ((0 : Int32), (sO qx1.2 ((qx1.1).toInt64))))
theorem g_L_comment_0 (LS : Nat) (xs : Nat → Int32) (d : Nat) (hd : 4 ≤ d)     (l1 : Int32) (l2 : Int32)  (s : fS) : fo cvI t_L_comment LS xs (mi_call mi_ms false LS xs d) (0, [some (.ref 0), some (.int l1), some (.int l2), some (.ref 109), none], [], enc s) (f_L_comment_0 l1 l2 s) := by
  unfold f_L_comment_0
  refine fo_st rfl rfl ?_
  refine fo_st rfl rfl ?_
  refine fo_st rfl rfl ?_
  refine fo_st rfl rfl ?_
  refine fo_st rfl rfl ?_
  refine fo_callH (As := [.ref 0, .int l1, .int l2]) (rest := [.int (0 : Int32), .ref 109]) rfl rfl rfl rfl (mi_rcv_of (eg_6 _)) rfl (c_X6_comment LS xs d (by omega) _ _ _ (p_X6_comment _ _ _)) (fun qx1 => ?_)
  refine fo_st rfl rfl ?_
  refine fo_last rfl ?_
  refine fo_st rfl rfl ?_
  refine fo_st rfl rfl ?_
  exact fo_ret rfl rfl rfl
def f_L_comment (l1 : Int32) (l2 : Int32) (s : fS) : Option (Int32 × fS) := f_L_comment_0 l1 l2 s
theorem c_L_comment (LS : Nat) (xs : Nat → Int32) (d : Nat) (hd : 5 ≤ d) (l1 : Int32) (l2 : Int32)  (s : fS) : fm mi_ms cvI LS xs d 152 [.ref 0, .int l1, .int l2, .ref 109] (enc s) (f_L_comment l1 l2 s) := by
  obtain ⟨e, rfl⟩ : ∃ e, d = e + 1 := ⟨d - 1, by omega⟩
  exact fm_of (M := m_L_comment) rfl rfl (fun _ => ⟨_, rfl⟩) (g_L_comment_0 LS xs e (by omega) l1 l2 s)
def f_L_out_0   (l1 : Int32) (s : fS) : Option (Int32 × fS) := (fbh [("java/lang/ArrayIndexOutOfBoundsException", 1)] (f_X6_out l1 s) fun qx1 => some ((0 : Int32), (sO qx1.2 ((qx1.1).toInt64))))
theorem g_L_out_0 (LS : Nat) (xs : Nat → Int32) (d : Nat) (hd : 2 ≤ d)     (l1 : Int32)  (s : fS) : fo cvI t_L_out LS xs (mi_call mi_ms false LS xs d) (0, [some (.ref 0), some (.int l1), some (.ref 109), none], [], enc s) (f_L_out_0 l1 s) := by
  unfold f_L_out_0
  refine fo_st rfl rfl ?_
  refine fo_st rfl rfl ?_
  refine fo_st rfl rfl ?_
  refine fo_st rfl rfl ?_
  refine fo_callH (As := [.ref 0, .int l1]) (rest := [.int (0 : Int32), .ref 109]) rfl rfl rfl rfl (mi_rcv_of (eg_6 _)) rfl (c_X6_out LS xs d (by omega) _ _ (p_X6_out _ _)) (fun qx1 => ?_)
  refine fo_st rfl rfl ?_
  refine fo_last rfl ?_
  refine fo_st rfl rfl ?_
  refine fo_st rfl rfl ?_
  exact fo_ret rfl rfl rfl
def f_L_out (l1 : Int32) (s : fS) : Option (Int32 × fS) := f_L_out_0 l1 s
theorem c_L_out (LS : Nat) (xs : Nat → Int32) (d : Nat) (hd : 3 ≤ d) (l1 : Int32)  (s : fS) : fm mi_ms cvI LS xs d 153 [.ref 0, .int l1, .ref 109] (enc s) (f_L_out l1 s) := by
  obtain ⟨e, rfl⟩ : ∃ e, d = e + 1 := ⟨d - 1, by omega⟩
  exact fm_of (M := m_L_out) rfl rfl (fun _ => ⟨_, rfl⟩) (g_L_out_0 LS xs e (by omega) l1 s)
end FW
