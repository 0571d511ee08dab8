def mi_cl : List vw_C := [(RX0, TX0, 8), (RX1, TX1, 15), (RX2, TX2, 16), (RX3, TX3, 2), (RX4, TX4, 4), (RX5, TX5, 1), (RX6, TX6, 8), (RX7, TX7, 42)]
def mi_str : List (String × Nat × String) := [("GraphTexts", 184, "no such sign"), ("GraphTexts", 144, "the VALUE is MISSING"), ("GraphTexts", 151, "the VALUE is a NAME"), ("GraphTexts", 157, "the VALUE is a number"), ("GraphTexts", 171, "no such byte was WRITTEN")]
def mi_ncs : List (String × String) := [("java/lang/ClassCastException", "java/lang/NullPointerException"), ("java/lang/ArrayIndexOutOfBoundsException", "java/lang/NullPointerException"), ("java/lang/ArrayIndexOutOfBoundsException", "java/lang/ClassCastException")]
def mi_thr : List Nat := [80, 83, 84, 85, 86, 88, 90]
